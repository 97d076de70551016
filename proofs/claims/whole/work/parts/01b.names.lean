set_option maxRecDepth 20000 in
theorem ggX0_top_X11_hasBit : GoodIn wsX0_top wsX11_hasBit := goodIn_r _ [3] (by decide +kernel) (by decide +kernel)
set_option maxRecDepth 20000 in
theorem gX0_top_X11_hasBit_n9 : GoodIn wsX0_top (wsX11_hasBit) := ggX0_top_X11_hasBit
set_option maxRecDepth 20000 in
theorem ggX0_top_X7_get : GoodIn wsX0_top wsX7_get := goodIn_r _ [8, 9, 10, 11, 12, 13, 14, 15] (by decide +kernel) (by decide +kernel)
set_option maxRecDepth 20000 in
theorem gX0_top_X7_get : GoodIn wsX0_top (wsV RX0 13 RX7 yX7_get wsX7_get) := goodIn_app (goodIn_of _ (by decide +kernel)) ggX0_top_X7_get
theorem dX0_top_0 : decode cX0_top 0 = .ok (.iload_n 1, 1) := by decide +kernel
theorem dX0_top_1 : decode cX0_top 1 = .ok (.istore_n 3, 1) := by decide +kernel
theorem dX0_top_2 : decode cX0_top 2 = .ok (.iconst 0, 1) := by decide +kernel
theorem dX0_top_3 : decode cX0_top 3 = .ok (.istore 4, 2) := by decide +kernel
theorem dX0_top_5 : decode cX0_top 5 = .ok (.iload 4, 2) := by decide +kernel
theorem dX0_top_7 : decode cX0_top 7 = .ok (.bipush 7, 2) := by decide +kernel
theorem dX0_top_9 : decode cX0_top 9 = .ok (.if_icmp .ge 40, 3) := by decide +kernel
theorem dX0_top_12 : decode cX0_top 12 = .ok (.iload_n 2, 1) := by decide +kernel
theorem dX0_top_13 : decode cX0_top 13 = .ok (.iload_n 3, 1) := by decide +kernel
theorem dX0_top_14 : decode cX0_top 14 = .ok (.invokestatic 9, 3) := by decide +kernel
theorem dX0_top_17 : decode cX0_top 17 = .ok (.ifCond .eq 7, 3) := by decide +kernel
theorem dX0_top_20 : decode cX0_top 20 = .ok (.iconst (-1), 1) := by decide +kernel
theorem dX0_top_21 : decode cX0_top 21 = .ok (.goto 9, 3) := by decide +kernel
theorem dX0_top_24 : decode cX0_top 24 = .ok (.aload_n 0, 1) := by decide +kernel
theorem dX0_top_25 : decode cX0_top 25 = .ok (.iload_n 3, 1) := by decide +kernel
theorem dX0_top_26 : decode cX0_top 26 = .ok (.iconst 4, 1) := by decide +kernel
theorem dX0_top_27 : decode cX0_top 27 = .ok (.invokevirtual 13, 3) := by decide +kernel
theorem dX0_top_30 : decode cX0_top 30 = .ok (.istore 5, 2) := by decide +kernel
theorem dX0_top_32 : decode cX0_top 32 = .ok (.iload 5, 2) := by decide +kernel
theorem dX0_top_34 : decode cX0_top 34 = .ok (.iconst (-1), 1) := by decide +kernel
theorem dX0_top_35 : decode cX0_top 35 = .ok (.if_icmp .ne 5, 3) := by decide +kernel
theorem dX0_top_38 : decode cX0_top 38 = .ok (.iload_n 3, 1) := by decide +kernel
theorem dX0_top_39 : decode cX0_top 39 = .ok (.ireturn, 1) := by decide +kernel
theorem dX0_top_40 : decode cX0_top 40 = .ok (.iload 5, 2) := by decide +kernel
theorem dX0_top_42 : decode cX0_top 42 = .ok (.istore_n 3, 1) := by decide +kernel
theorem dX0_top_43 : decode cX0_top 43 = .ok (.iinc 4 1, 3) := by decide +kernel
theorem dX0_top_46 : decode cX0_top 46 = .ok (.goto (-41), 3) := by decide +kernel
theorem dX0_top_49 : decode cX0_top 49 = .ok (.iload_n 3, 1) := by decide +kernel
theorem dX0_top_50 : decode cX0_top 50 = .ok (.ireturn, 1) := by decide +kernel
set_option maxRecDepth 20000 in
theorem ggX0_hangsOn_X7_get : GoodIn wsX0_hangsOn wsX7_get := goodIn_r _ [5, 6, 7, 8, 9, 10, 11, 12] (by decide +kernel) (by decide +kernel)
set_option maxRecDepth 20000 in
theorem gX0_hangsOn_X7_get : GoodIn wsX0_hangsOn (wsV RX0 13 RX7 yX7_get wsX7_get) := goodIn_app (goodIn_of _ (by decide +kernel)) ggX0_hangsOn_X7_get
theorem dX0_hangsOn_0 : decode cX0_hangsOn 0 = .ok (.iload_n 1, 1) := by decide +kernel
theorem dX0_hangsOn_1 : decode cX0_hangsOn 1 = .ok (.istore_n 3, 1) := by decide +kernel
theorem dX0_hangsOn_2 : decode cX0_hangsOn 2 = .ok (.iconst 0, 1) := by decide +kernel
theorem dX0_hangsOn_3 : decode cX0_hangsOn 3 = .ok (.istore 4, 2) := by decide +kernel
theorem dX0_hangsOn_5 : decode cX0_hangsOn 5 = .ok (.iload 4, 2) := by decide +kernel
theorem dX0_hangsOn_7 : decode cX0_hangsOn 7 = .ok (.bipush 7, 2) := by decide +kernel
theorem dX0_hangsOn_9 : decode cX0_hangsOn 9 = .ok (.if_icmp .ge 28, 3) := by decide +kernel
theorem dX0_hangsOn_12 : decode cX0_hangsOn 12 = .ok (.iload_n 3, 1) := by decide +kernel
theorem dX0_hangsOn_13 : decode cX0_hangsOn 13 = .ok (.iconst (-1), 1) := by decide +kernel
theorem dX0_hangsOn_14 : decode cX0_hangsOn 14 = .ok (.if_icmp .eq 23, 3) := by decide +kernel
theorem dX0_hangsOn_17 : decode cX0_hangsOn 17 = .ok (.iload_n 3, 1) := by decide +kernel
theorem dX0_hangsOn_18 : decode cX0_hangsOn 18 = .ok (.iload_n 2, 1) := by decide +kernel
theorem dX0_hangsOn_19 : decode cX0_hangsOn 19 = .ok (.if_icmp .ne 5, 3) := by decide +kernel
theorem dX0_hangsOn_22 : decode cX0_hangsOn 22 = .ok (.iconst 1, 1) := by decide +kernel
theorem dX0_hangsOn_23 : decode cX0_hangsOn 23 = .ok (.ireturn, 1) := by decide +kernel
theorem dX0_hangsOn_24 : decode cX0_hangsOn 24 = .ok (.aload_n 0, 1) := by decide +kernel
theorem dX0_hangsOn_25 : decode cX0_hangsOn 25 = .ok (.iload_n 3, 1) := by decide +kernel
theorem dX0_hangsOn_26 : decode cX0_hangsOn 26 = .ok (.iconst 4, 1) := by decide +kernel
theorem dX0_hangsOn_27 : decode cX0_hangsOn 27 = .ok (.invokevirtual 13, 3) := by decide +kernel
theorem dX0_hangsOn_30 : decode cX0_hangsOn 30 = .ok (.istore_n 3, 1) := by decide +kernel
theorem dX0_hangsOn_31 : decode cX0_hangsOn 31 = .ok (.iinc 4 1, 3) := by decide +kernel
theorem dX0_hangsOn_34 : decode cX0_hangsOn 34 = .ok (.goto (-29), 3) := by decide +kernel
theorem dX0_hangsOn_37 : decode cX0_hangsOn 37 = .ok (.iconst 0, 1) := by decide +kernel
theorem dX0_hangsOn_38 : decode cX0_hangsOn 38 = .ok (.ireturn, 1) := by decide +kernel
set_option maxRecDepth 20000 in
theorem ggX0_howManyOn_X7_size : GoodIn wsX0_howManyOn wsX7_size := goodIn_r _ [5, 6, 13, 14, 15, 16] (by decide +kernel) (by decide +kernel)
set_option maxRecDepth 20000 in
theorem gX0_howManyOn_X7_size : GoodIn wsX0_howManyOn (wsV RX0 19 RX7 yX7_size wsX7_size) := goodIn_app (goodIn_of _ (by decide +kernel)) ggX0_howManyOn_X7_size
set_option maxRecDepth 20000 in
theorem ggX0_howManyOn_X7_get : GoodIn wsX0_howManyOn wsX7_get := goodIn_r _ [10, 6, 11, 12, 13, 14, 15, 16] (by decide +kernel) (by decide +kernel)
set_option maxRecDepth 20000 in
theorem gX0_howManyOn_X7_get : GoodIn wsX0_howManyOn (wsV RX0 13 RX7 yX7_get wsX7_get) := goodIn_app (goodIn_of _ (by decide +kernel)) ggX0_howManyOn_X7_get
theorem dX0_howManyOn_0 : decode cX0_howManyOn 0 = .ok (.iconst 0, 1) := by decide +kernel
theorem dX0_howManyOn_1 : decode cX0_howManyOn 1 = .ok (.istore_n 2, 1) := by decide +kernel
theorem dX0_howManyOn_2 : decode cX0_howManyOn 2 = .ok (.iconst 0, 1) := by decide +kernel
theorem dX0_howManyOn_3 : decode cX0_howManyOn 3 = .ok (.istore_n 3, 1) := by decide +kernel
theorem dX0_howManyOn_4 : decode cX0_howManyOn 4 = .ok (.iload_n 3, 1) := by decide +kernel
theorem dX0_howManyOn_5 : decode cX0_howManyOn 5 = .ok (.aload_n 0, 1) := by decide +kernel
theorem dX0_howManyOn_6 : decode cX0_howManyOn 6 = .ok (.invokevirtual 19, 3) := by decide +kernel
theorem dX0_howManyOn_9 : decode cX0_howManyOn 9 = .ok (.if_icmp .ge 27, 3) := by decide +kernel
theorem dX0_howManyOn_12 : decode cX0_howManyOn 12 = .ok (.iload_n 2, 1) := by decide +kernel
theorem dX0_howManyOn_13 : decode cX0_howManyOn 13 = .ok (.aload_n 0, 1) := by decide +kernel
theorem dX0_howManyOn_14 : decode cX0_howManyOn 14 = .ok (.iload_n 3, 1) := by decide +kernel
theorem dX0_howManyOn_15 : decode cX0_howManyOn 15 = .ok (.iconst 4, 1) := by decide +kernel
theorem dX0_howManyOn_16 : decode cX0_howManyOn 16 = .ok (.invokevirtual 13, 3) := by decide +kernel
theorem dX0_howManyOn_19 : decode cX0_howManyOn 19 = .ok (.iload_n 1, 1) := by decide +kernel
theorem dX0_howManyOn_20 : decode cX0_howManyOn 20 = .ok (.if_icmp .ne 7, 3) := by decide +kernel
theorem dX0_howManyOn_23 : decode cX0_howManyOn 23 = .ok (.iconst 1, 1) := by decide +kernel
theorem dX0_howManyOn_24 : decode cX0_howManyOn 24 = .ok (.goto 4, 3) := by decide +kernel
theorem dX0_howManyOn_27 : decode cX0_howManyOn 27 = .ok (.iconst 0, 1) := by decide +kernel
theorem dX0_howManyOn_28 : decode cX0_howManyOn 28 = .ok (.iadd, 1) := by decide +kernel
theorem dX0_howManyOn_29 : decode cX0_howManyOn 29 = .ok (.istore_n 2, 1) := by decide +kernel
theorem dX0_howManyOn_30 : decode cX0_howManyOn 30 = .ok (.iinc 3 1, 3) := by decide +kernel
theorem dX0_howManyOn_33 : decode cX0_howManyOn 33 = .ok (.goto (-29), 3) := by decide +kernel
theorem dX0_howManyOn_36 : decode cX0_howManyOn 36 = .ok (.iload_n 2, 1) := by decide +kernel
theorem dX0_howManyOn_37 : decode cX0_howManyOn 37 = .ok (.ireturn, 1) := by decide +kernel
set_option maxRecDepth 20000 in
theorem ggX0_holdsTwo_X0_howManyOn : GoodIn wsX0_holdsTwo wsX0_howManyOn := goodIn_r _ [4, 5, 6, 7, 8, 9, 10, 11, 12, 13, 14, 15, 16, 17, 18, 19, 20] (by decide +kernel) (by decide +kernel)
set_option maxRecDepth 20000 in
theorem gX0_holdsTwo_X0_howManyOn : GoodIn wsX0_holdsTwo (va_wsS RX0 23 yX0_howManyOn wsX0_howManyOn) := goodIn_app (goodIn_of _ (by decide +kernel)) ggX0_holdsTwo_X0_howManyOn
theorem dX0_holdsTwo_0 : decode cX0_holdsTwo 0 = .ok (.aload_n 0, 1) := by decide +kernel
theorem dX0_holdsTwo_1 : decode cX0_holdsTwo 1 = .ok (.iload_n 1, 1) := by decide +kernel
theorem dX0_holdsTwo_2 : decode cX0_holdsTwo 2 = .ok (.invokestatic 23, 3) := by decide +kernel
theorem dX0_holdsTwo_5 : decode cX0_holdsTwo 5 = .ok (.iconst 2, 1) := by decide +kernel
theorem dX0_holdsTwo_6 : decode cX0_holdsTwo 6 = .ok (.if_icmp .lt 7, 3) := by decide +kernel
theorem dX0_holdsTwo_9 : decode cX0_holdsTwo 9 = .ok (.iconst 1, 1) := by decide +kernel
theorem dX0_holdsTwo_10 : decode cX0_holdsTwo 10 = .ok (.goto 4, 3) := by decide +kernel
theorem dX0_holdsTwo_13 : decode cX0_holdsTwo 13 = .ok (.iconst 0, 1) := by decide +kernel
theorem dX0_holdsTwo_14 : decode cX0_holdsTwo 14 = .ok (.ireturn, 1) := by decide +kernel
set_option maxRecDepth 20000 in
theorem ggX0_canHold_X0_hangsOn : GoodIn wsX0_canHold wsX0_hangsOn := goodIn_r _ [4, 5, 6, 7, 8, 9, 10, 11, 12, 23, 24, 25, 26] (by decide +kernel) (by decide +kernel)
set_option maxRecDepth 20000 in
theorem gX0_canHold_X0_hangsOn : GoodIn wsX0_canHold (va_wsS RX0 29 yX0_hangsOn wsX0_hangsOn) := goodIn_app (goodIn_of _ (by decide +kernel)) ggX0_canHold_X0_hangsOn
set_option maxRecDepth 20000 in
theorem ggX0_canHold_X0_holdsTwo : GoodIn wsX0_canHold wsX0_holdsTwo := goodIn_r _ [15, 16, 17, 3, 18, 19, 20, 21, 8, 22, 10, 5, 6, 7, 9, 11, 12, 23, 24, 25, 26] (by decide +kernel) (by decide +kernel)
set_option maxRecDepth 20000 in
theorem gX0_canHold_X0_holdsTwo : GoodIn wsX0_canHold (va_wsS RX0 33 yX0_holdsTwo wsX0_holdsTwo) := goodIn_app (goodIn_of _ (by decide +kernel)) ggX0_canHold_X0_holdsTwo
theorem dX0_canHold_0 : decode cX0_canHold 0 = .ok (.aload_n 0, 1) := by decide +kernel
theorem dX0_canHold_1 : decode cX0_canHold 1 = .ok (.iload_n 1, 1) := by decide +kernel
theorem dX0_canHold_2 : decode cX0_canHold 2 = .ok (.iload_n 2, 1) := by decide +kernel
theorem dX0_canHold_3 : decode cX0_canHold 3 = .ok (.invokestatic 29, 3) := by decide +kernel
theorem dX0_canHold_6 : decode cX0_canHold 6 = .ok (.ifCond .ne 15, 3) := by decide +kernel
theorem dX0_canHold_9 : decode cX0_canHold 9 = .ok (.aload_n 0, 1) := by decide +kernel
theorem dX0_canHold_10 : decode cX0_canHold 10 = .ok (.iload_n 1, 1) := by decide +kernel
theorem dX0_canHold_11 : decode cX0_canHold 11 = .ok (.invokestatic 33, 3) := by decide +kernel
theorem dX0_canHold_14 : decode cX0_canHold 14 = .ok (.ifCond .ne 7, 3) := by decide +kernel
theorem dX0_canHold_17 : decode cX0_canHold 17 = .ok (.iconst 1, 1) := by decide +kernel
theorem dX0_canHold_18 : decode cX0_canHold 18 = .ok (.goto 4, 3) := by decide +kernel
theorem dX0_canHold_21 : decode cX0_canHold 21 = .ok (.iconst 0, 1) := by decide +kernel
theorem dX0_canHold_22 : decode cX0_canHold 22 = .ok (.ireturn, 1) := by decide +kernel
set_option maxRecDepth 20000 in
theorem ggX0_holdersFor_X7_size : GoodIn wsX0_holdersFor wsX7_size := goodIn_r _ [5, 6, 26, 27, 28, 29] (by decide +kernel) (by decide +kernel)
set_option maxRecDepth 20000 in
theorem gX0_holdersFor_X7_size : GoodIn wsX0_holdersFor (wsV RX0 19 RX7 yX7_size wsX7_size) := goodIn_app (goodIn_of _ (by decide +kernel)) ggX0_holdersFor_X7_size
set_option maxRecDepth 20000 in
theorem ggX0_holdersFor_X0_canHold : GoodIn wsX0_holdersFor wsX0_canHold := goodIn_r _ [10, 11, 12, 9, 13, 14, 15, 16, 4, 17, 6, 18, 19, 20, 21, 22, 23, 24, 25, 1, 2, 3, 5, 26, 27, 28, 29] (by decide +kernel) (by decide +kernel)
set_option maxRecDepth 20000 in
theorem gX0_holdersFor_X0_canHold : GoodIn wsX0_holdersFor (va_wsS RX0 37 yX0_canHold wsX0_canHold) := goodIn_app (goodIn_of _ (by decide +kernel)) ggX0_holdersFor_X0_canHold
theorem dX0_holdersFor_0 : decode cX0_holdersFor 0 = .ok (.iconst 0, 1) := by decide +kernel
theorem dX0_holdersFor_1 : decode cX0_holdersFor 1 = .ok (.istore_n 2, 1) := by decide +kernel
theorem dX0_holdersFor_2 : decode cX0_holdersFor 2 = .ok (.iconst 0, 1) := by decide +kernel
theorem dX0_holdersFor_3 : decode cX0_holdersFor 3 = .ok (.istore_n 3, 1) := by decide +kernel
theorem dX0_holdersFor_4 : decode cX0_holdersFor 4 = .ok (.iload_n 3, 1) := by decide +kernel
theorem dX0_holdersFor_5 : decode cX0_holdersFor 5 = .ok (.aload_n 0, 1) := by decide +kernel
theorem dX0_holdersFor_6 : decode cX0_holdersFor 6 = .ok (.invokevirtual 19, 3) := by decide +kernel
theorem dX0_holdersFor_9 : decode cX0_holdersFor 9 = .ok (.if_icmp .ge 28, 3) := by decide +kernel
theorem dX0_holdersFor_12 : decode cX0_holdersFor 12 = .ok (.iload_n 2, 1) := by decide +kernel
theorem dX0_holdersFor_13 : decode cX0_holdersFor 13 = .ok (.aload_n 0, 1) := by decide +kernel
theorem dX0_holdersFor_14 : decode cX0_holdersFor 14 = .ok (.iload_n 3, 1) := by decide +kernel
theorem dX0_holdersFor_15 : decode cX0_holdersFor 15 = .ok (.iload_n 1, 1) := by decide +kernel
theorem dX0_holdersFor_16 : decode cX0_holdersFor 16 = .ok (.invokestatic 37, 3) := by decide +kernel
theorem dX0_holdersFor_19 : decode cX0_holdersFor 19 = .ok (.ifCond .eq 9, 3) := by decide +kernel
theorem dX0_holdersFor_22 : decode cX0_holdersFor 22 = .ok (.iconst 1, 1) := by decide +kernel
theorem dX0_holdersFor_23 : decode cX0_holdersFor 23 = .ok (.iload_n 3, 1) := by decide +kernel
theorem dX0_holdersFor_24 : decode cX0_holdersFor 24 = .ok (.ishl, 1) := by decide +kernel
theorem dX0_holdersFor_25 : decode cX0_holdersFor 25 = .ok (.goto 4, 3) := by decide +kernel
theorem dX0_holdersFor_28 : decode cX0_holdersFor 28 = .ok (.iconst 0, 1) := by decide +kernel
theorem dX0_holdersFor_29 : decode cX0_holdersFor 29 = .ok (.ior, 1) := by decide +kernel
theorem dX0_holdersFor_30 : decode cX0_holdersFor 30 = .ok (.istore_n 2, 1) := by decide +kernel
theorem dX0_holdersFor_31 : decode cX0_holdersFor 31 = .ok (.iinc 3 1, 3) := by decide +kernel
theorem dX0_holdersFor_34 : decode cX0_holdersFor 34 = .ok (.goto (-30), 3) := by decide +kernel
theorem dX0_holdersFor_37 : decode cX0_holdersFor 37 = .ok (.iload_n 2, 1) := by decide +kernel
theorem dX0_holdersFor_38 : decode cX0_holdersFor 38 = .ok (.ireturn, 1) := by decide +kernel
set_option maxRecDepth 20000 in
theorem ggX0_members_X0_top : GoodIn wsX0_members wsX0_top := goodIn_r _ [4, 5, 6, 7, 8, 9, 10, 11, 12, 13, 14, 15, 20, 21, 22, 23] (by decide +kernel) (by decide +kernel)
set_option maxRecDepth 20000 in
theorem gX0_members_X0_top : GoodIn wsX0_members (va_wsS RX0 40 yX0_top wsX0_top) := goodIn_app (goodIn_of _ (by decide +kernel)) ggX0_members_X0_top
set_option maxRecDepth 20000 in
theorem ggX0_members_X7_size : GoodIn wsX0_members wsX7_size := goodIn_r _ [19, 13, 20, 21, 22, 23] (by decide +kernel) (by decide +kernel)
set_option maxRecDepth 20000 in
theorem gX0_members_X7_size : GoodIn wsX0_members (wsV RX0 19 RX7 yX7_size wsX7_size) := goodIn_app (goodIn_of _ (by decide +kernel)) ggX0_members_X7_size
theorem dX0_members_0 : decode cX0_members 0 = .ok (.aload_n 0, 1) := by decide +kernel
theorem dX0_members_1 : decode cX0_members 1 = .ok (.iload_n 1, 1) := by decide +kernel
theorem dX0_members_2 : decode cX0_members 2 = .ok (.iconst 0, 1) := by decide +kernel
theorem dX0_members_3 : decode cX0_members 3 = .ok (.invokestatic 40, 3) := by decide +kernel
theorem dX0_members_6 : decode cX0_members 6 = .ok (.istore_n 2, 1) := by decide +kernel
theorem dX0_members_7 : decode cX0_members 7 = .ok (.iconst 0, 1) := by decide +kernel
theorem dX0_members_8 : decode cX0_members 8 = .ok (.istore_n 3, 1) := by decide +kernel
theorem dX0_members_9 : decode cX0_members 9 = .ok (.iconst 0, 1) := by decide +kernel
theorem dX0_members_10 : decode cX0_members 10 = .ok (.istore 4, 2) := by decide +kernel
theorem dX0_members_12 : decode cX0_members 12 = .ok (.iload 4, 2) := by decide +kernel
theorem dX0_members_14 : decode cX0_members 14 = .ok (.aload_n 0, 1) := by decide +kernel
theorem dX0_members_15 : decode cX0_members 15 = .ok (.invokevirtual 19, 3) := by decide +kernel
theorem dX0_members_18 : decode cX0_members 18 = .ok (.if_icmp .ge 31, 3) := by decide +kernel
theorem dX0_members_21 : decode cX0_members 21 = .ok (.iload_n 3, 1) := by decide +kernel
theorem dX0_members_22 : decode cX0_members 22 = .ok (.aload_n 0, 1) := by decide +kernel
theorem dX0_members_23 : decode cX0_members 23 = .ok (.iload 4, 2) := by decide +kernel
theorem dX0_members_25 : decode cX0_members 25 = .ok (.iconst 0, 1) := by decide +kernel
theorem dX0_members_26 : decode cX0_members 26 = .ok (.invokestatic 40, 3) := by decide +kernel
theorem dX0_members_29 : decode cX0_members 29 = .ok (.iload_n 2, 1) := by decide +kernel
theorem dX0_members_30 : decode cX0_members 30 = .ok (.if_icmp .ne 10, 3) := by decide +kernel
theorem dX0_members_33 : decode cX0_members 33 = .ok (.iconst 1, 1) := by decide +kernel
theorem dX0_members_34 : decode cX0_members 34 = .ok (.iload 4, 2) := by decide +kernel
theorem dX0_members_36 : decode cX0_members 36 = .ok (.ishl, 1) := by decide +kernel
theorem dX0_members_37 : decode cX0_members 37 = .ok (.goto 4, 3) := by decide +kernel
theorem dX0_members_40 : decode cX0_members 40 = .ok (.iconst 0, 1) := by decide +kernel
theorem dX0_members_41 : decode cX0_members 41 = .ok (.ior, 1) := by decide +kernel
theorem dX0_members_42 : decode cX0_members 42 = .ok (.istore_n 3, 1) := by decide +kernel
theorem dX0_members_43 : decode cX0_members 43 = .ok (.iinc 4 1, 3) := by decide +kernel
theorem dX0_members_46 : decode cX0_members 46 = .ok (.goto (-34), 3) := by decide +kernel
theorem dX0_members_49 : decode cX0_members 49 = .ok (.iload_n 3, 1) := by decide +kernel
theorem dX0_members_50 : decode cX0_members 50 = .ok (.ireturn, 1) := by decide +kernel
set_option maxRecDepth 20000 in
theorem ggX0_weight_X7_size : GoodIn wsX0_weight wsX7_size := goodIn_r _ [5, 6, 16, 17, 18, 19] (by decide +kernel) (by decide +kernel)
set_option maxRecDepth 20000 in
theorem gX0_weight_X7_size : GoodIn wsX0_weight (wsV RX0 19 RX7 yX7_size wsX7_size) := goodIn_app (goodIn_of _ (by decide +kernel)) ggX0_weight_X7_size
set_option maxRecDepth 20000 in
theorem ggX0_weight_X11_hasBit : GoodIn wsX0_weight wsX11_hasBit := goodIn_r _ [9] (by decide +kernel) (by decide +kernel)
set_option maxRecDepth 20000 in
theorem gX0_weight_X11_hasBit_n9 : GoodIn wsX0_weight (wsX11_hasBit) := ggX0_weight_X11_hasBit
set_option maxRecDepth 20000 in
theorem ggX0_weight_X7_get : GoodIn wsX0_weight wsX7_get := goodIn_r _ [13, 6, 14, 15, 16, 17, 18, 19] (by decide +kernel) (by decide +kernel)
set_option maxRecDepth 20000 in
theorem gX0_weight_X7_get : GoodIn wsX0_weight (wsV RX0 13 RX7 yX7_get wsX7_get) := goodIn_app (goodIn_of _ (by decide +kernel)) ggX0_weight_X7_get
theorem dX0_weight_0 : decode cX0_weight 0 = .ok (.iconst 0, 1) := by decide +kernel
theorem dX0_weight_1 : decode cX0_weight 1 = .ok (.istore_n 2, 1) := by decide +kernel
theorem dX0_weight_2 : decode cX0_weight 2 = .ok (.iconst 0, 1) := by decide +kernel
theorem dX0_weight_3 : decode cX0_weight 3 = .ok (.istore_n 3, 1) := by decide +kernel
theorem dX0_weight_4 : decode cX0_weight 4 = .ok (.iload_n 3, 1) := by decide +kernel
theorem dX0_weight_5 : decode cX0_weight 5 = .ok (.aload_n 0, 1) := by decide +kernel
theorem dX0_weight_6 : decode cX0_weight 6 = .ok (.invokevirtual 19, 3) := by decide +kernel
theorem dX0_weight_9 : decode cX0_weight 9 = .ok (.if_icmp .ge 30, 3) := by decide +kernel
theorem dX0_weight_12 : decode cX0_weight 12 = .ok (.iload_n 2, 1) := by decide +kernel
theorem dX0_weight_13 : decode cX0_weight 13 = .ok (.iload_n 1, 1) := by decide +kernel
theorem dX0_weight_14 : decode cX0_weight 14 = .ok (.iload_n 3, 1) := by decide +kernel
theorem dX0_weight_15 : decode cX0_weight 15 = .ok (.invokestatic 9, 3) := by decide +kernel
theorem dX0_weight_18 : decode cX0_weight 18 = .ok (.ifCond .eq 12, 3) := by decide +kernel
theorem dX0_weight_21 : decode cX0_weight 21 = .ok (.aload_n 0, 1) := by decide +kernel
theorem dX0_weight_22 : decode cX0_weight 22 = .ok (.iload_n 3, 1) := by decide +kernel
theorem dX0_weight_23 : decode cX0_weight 23 = .ok (.iconst 2, 1) := by decide +kernel
theorem dX0_weight_24 : decode cX0_weight 24 = .ok (.invokevirtual 13, 3) := by decide +kernel
theorem dX0_weight_27 : decode cX0_weight 27 = .ok (.goto 4, 3) := by decide +kernel
theorem dX0_weight_30 : decode cX0_weight 30 = .ok (.iconst 0, 1) := by decide +kernel
theorem dX0_weight_31 : decode cX0_weight 31 = .ok (.iadd, 1) := by decide +kernel
theorem dX0_weight_32 : decode cX0_weight 32 = .ok (.istore_n 2, 1) := by decide +kernel
theorem dX0_weight_33 : decode cX0_weight 33 = .ok (.iinc 3 1, 3) := by decide +kernel
theorem dX0_weight_36 : decode cX0_weight 36 = .ok (.goto (-32), 3) := by decide +kernel
theorem dX0_weight_39 : decode cX0_weight 39 = .ok (.iload_n 2, 1) := by decide +kernel
theorem dX0_weight_40 : decode cX0_weight 40 = .ok (.ireturn, 1) := by decide +kernel
set_option maxRecDepth 20000 in
theorem ggX0_howMany_X0_howManyOn : GoodIn wsX0_howMany wsX0_howManyOn := goodIn_r _ [4, 5, 6, 7, 8, 9, 10, 11, 12, 13, 14, 15, 16, 17, 18, 19, 20] (by decide +kernel) (by decide +kernel)
set_option maxRecDepth 20000 in
theorem gX0_howMany_X0_howManyOn : GoodIn wsX0_howMany (va_wsS RX0 23 yX0_howManyOn wsX0_howManyOn) := goodIn_app (goodIn_of _ (by decide +kernel)) ggX0_howMany_X0_howManyOn
theorem dX0_howMany_0 : decode cX0_howMany 0 = .ok (.aload_n 0, 1) := by decide +kernel
theorem dX0_howMany_1 : decode cX0_howMany 1 = .ok (.iconst (-1), 1) := by decide +kernel
theorem dX0_howMany_2 : decode cX0_howMany 2 = .ok (.invokestatic 23, 3) := by decide +kernel
theorem dX0_howMany_5 : decode cX0_howMany 5 = .ok (.ireturn, 1) := by decide +kernel
set_option maxRecDepth 20000 in
theorem ggX0_ends_X7_size : GoodIn wsX0_ends wsX7_size := goodIn_r _ [5, 6, 17, 18, 19, 20] (by decide +kernel) (by decide +kernel)
set_option maxRecDepth 20000 in
theorem gX0_ends_X7_size : GoodIn wsX0_ends (wsV RX0 19 RX7 yX7_size wsX7_size) := goodIn_app (goodIn_of _ (by decide +kernel)) ggX0_ends_X7_size
set_option maxRecDepth 20000 in
theorem ggX0_ends_X0_howManyOn : GoodIn wsX0_ends wsX0_howManyOn := goodIn_r _ [10, 1, 2, 3, 4, 5, 6, 11, 12, 13, 14, 15, 16, 17, 18, 19, 20] (by decide +kernel) (by decide +kernel)
set_option maxRecDepth 20000 in
theorem gX0_ends_X0_howManyOn : GoodIn wsX0_ends (va_wsS RX0 23 yX0_howManyOn wsX0_howManyOn) := goodIn_app (goodIn_of _ (by decide +kernel)) ggX0_ends_X0_howManyOn
set_option maxRecDepth 20000 in
theorem ggX0_ends_X7_get : GoodIn wsX0_ends wsX7_get := goodIn_r _ [14, 6, 15, 16, 17, 18, 19, 20] (by decide +kernel) (by decide +kernel)
set_option maxRecDepth 20000 in
theorem gX0_ends_X7_get : GoodIn wsX0_ends (wsV RX0 13 RX7 yX7_get wsX7_get) := goodIn_app (goodIn_of _ (by decide +kernel)) ggX0_ends_X7_get
theorem dX0_ends_0 : decode cX0_ends 0 = .ok (.iconst 0, 1) := by decide +kernel
theorem dX0_ends_1 : decode cX0_ends 1 = .ok (.istore_n 1, 1) := by decide +kernel
theorem dX0_ends_2 : decode cX0_ends 2 = .ok (.iconst 0, 1) := by decide +kernel
theorem dX0_ends_3 : decode cX0_ends 3 = .ok (.istore_n 2, 1) := by decide +kernel
theorem dX0_ends_4 : decode cX0_ends 4 = .ok (.iload_n 2, 1) := by decide +kernel
theorem dX0_ends_5 : decode cX0_ends 5 = .ok (.aload_n 0, 1) := by decide +kernel
theorem dX0_ends_6 : decode cX0_ends 6 = .ok (.invokevirtual 19, 3) := by decide +kernel
theorem dX0_ends_9 : decode cX0_ends 9 = .ok (.if_icmp .ge 46, 3) := by decide +kernel
theorem dX0_ends_12 : decode cX0_ends 12 = .ok (.aload_n 0, 1) := by decide +kernel
theorem dX0_ends_13 : decode cX0_ends 13 = .ok (.iload_n 2, 1) := by decide +kernel
theorem dX0_ends_14 : decode cX0_ends 14 = .ok (.invokestatic 23, 3) := by decide +kernel
theorem dX0_ends_17 : decode cX0_ends 17 = .ok (.aload_n 0, 1) := by decide +kernel
theorem dX0_ends_18 : decode cX0_ends 18 = .ok (.iload_n 2, 1) := by decide +kernel
theorem dX0_ends_19 : decode cX0_ends 19 = .ok (.iconst 4, 1) := by decide +kernel
theorem dX0_ends_20 : decode cX0_ends 20 = .ok (.invokevirtual 13, 3) := by decide +kernel
theorem dX0_ends_23 : decode cX0_ends 23 = .ok (.iconst (-1), 1) := by decide +kernel
theorem dX0_ends_24 : decode cX0_ends 24 = .ok (.if_icmp .ne 7, 3) := by decide +kernel
theorem dX0_ends_27 : decode cX0_ends 27 = .ok (.iconst 0, 1) := by decide +kernel
theorem dX0_ends_28 : decode cX0_ends 28 = .ok (.goto 4, 3) := by decide +kernel
theorem dX0_ends_31 : decode cX0_ends 31 = .ok (.iconst 1, 1) := by decide +kernel
theorem dX0_ends_32 : decode cX0_ends 32 = .ok (.iadd, 1) := by decide +kernel
theorem dX0_ends_33 : decode cX0_ends 33 = .ok (.istore_n 3, 1) := by decide +kernel
theorem dX0_ends_34 : decode cX0_ends 34 = .ok (.iload_n 1, 1) := by decide +kernel
theorem dX0_ends_35 : decode cX0_ends 35 = .ok (.iload_n 3, 1) := by decide +kernel
theorem dX0_ends_36 : decode cX0_ends 36 = .ok (.iconst 1, 1) := by decide +kernel
theorem dX0_ends_37 : decode cX0_ends 37 = .ok (.if_icmp .gt 9, 3) := by decide +kernel
theorem dX0_ends_40 : decode cX0_ends 40 = .ok (.iconst 1, 1) := by decide +kernel
theorem dX0_ends_41 : decode cX0_ends 41 = .ok (.iload_n 2, 1) := by decide +kernel
theorem dX0_ends_42 : decode cX0_ends 42 = .ok (.ishl, 1) := by decide +kernel
theorem dX0_ends_43 : decode cX0_ends 43 = .ok (.goto 4, 3) := by decide +kernel
theorem dX0_ends_46 : decode cX0_ends 46 = .ok (.iconst 0, 1) := by decide +kernel
theorem dX0_ends_47 : decode cX0_ends 47 = .ok (.ior, 1) := by decide +kernel
theorem dX0_ends_48 : decode cX0_ends 48 = .ok (.istore_n 1, 1) := by decide +kernel
theorem dX0_ends_49 : decode cX0_ends 49 = .ok (.iinc 2 1, 3) := by decide +kernel
theorem dX0_ends_52 : decode cX0_ends 52 = .ok (.goto (-48), 3) := by decide +kernel
theorem dX0_ends_55 : decode cX0_ends 55 = .ok (.iload_n 1, 1) := by decide +kernel
theorem dX0_ends_56 : decode cX0_ends 56 = .ok (.ireturn, 1) := by decide +kernel
set_option maxRecDepth 20000 in
theorem ggX0_hooksBetween_X7_get : GoodIn wsX0_hooksBetween wsX7_get := goodIn_r _ [5, 6, 7, 8, 9, 10, 11, 12] (by decide +kernel) (by decide +kernel)
set_option maxRecDepth 20000 in
theorem gX0_hooksBetween_X7_get : GoodIn wsX0_hooksBetween (wsV RX0 13 RX7 yX7_get wsX7_get) := goodIn_app (goodIn_of _ (by decide +kernel)) ggX0_hooksBetween_X7_get
theorem dX0_hooksBetween_0 : decode cX0_hooksBetween 0 = .ok (.iload_n 1, 1) := by decide +kernel
theorem dX0_hooksBetween_1 : decode cX0_hooksBetween 1 = .ok (.istore_n 3, 1) := by decide +kernel
theorem dX0_hooksBetween_2 : decode cX0_hooksBetween 2 = .ok (.iconst 0, 1) := by decide +kernel
theorem dX0_hooksBetween_3 : decode cX0_hooksBetween 3 = .ok (.istore 4, 2) := by decide +kernel
theorem dX0_hooksBetween_5 : decode cX0_hooksBetween 5 = .ok (.iload 4, 2) := by decide +kernel
theorem dX0_hooksBetween_7 : decode cX0_hooksBetween 7 = .ok (.bipush 7, 2) := by decide +kernel
theorem dX0_hooksBetween_9 : decode cX0_hooksBetween 9 = .ok (.if_icmp .ge 67, 3) := by decide +kernel
theorem dX0_hooksBetween_12 : decode cX0_hooksBetween 12 = .ok (.iload_n 3, 1) := by decide +kernel
theorem dX0_hooksBetween_13 : decode cX0_hooksBetween 13 = .ok (.iconst (-1), 1) := by decide +kernel
theorem dX0_hooksBetween_14 : decode cX0_hooksBetween 14 = .ok (.if_icmp .eq 62, 3) := by decide +kernel
theorem dX0_hooksBetween_17 : decode cX0_hooksBetween 17 = .ok (.iload_n 2, 1) := by decide +kernel
theorem dX0_hooksBetween_18 : decode cX0_hooksBetween 18 = .ok (.istore 5, 2) := by decide +kernel
theorem dX0_hooksBetween_20 : decode cX0_hooksBetween 20 = .ok (.iconst 0, 1) := by decide +kernel
theorem dX0_hooksBetween_21 : decode cX0_hooksBetween 21 = .ok (.istore 6, 2) := by decide +kernel
theorem dX0_hooksBetween_23 : decode cX0_hooksBetween 23 = .ok (.iload 6, 2) := by decide +kernel
theorem dX0_hooksBetween_25 : decode cX0_hooksBetween 25 = .ok (.bipush 7, 2) := by decide +kernel
theorem dX0_hooksBetween_27 : decode cX0_hooksBetween 27 = .ok (.if_icmp .ge 36, 3) := by decide +kernel
theorem dX0_hooksBetween_30 : decode cX0_hooksBetween 30 = .ok (.iload 5, 2) := by decide +kernel
theorem dX0_hooksBetween_32 : decode cX0_hooksBetween 32 = .ok (.iconst (-1), 1) := by decide +kernel
theorem dX0_hooksBetween_33 : decode cX0_hooksBetween 33 = .ok (.if_icmp .eq 30, 3) := by decide +kernel
theorem dX0_hooksBetween_36 : decode cX0_hooksBetween 36 = .ok (.iload_n 3, 1) := by decide +kernel
theorem dX0_hooksBetween_37 : decode cX0_hooksBetween 37 = .ok (.iload 5, 2) := by decide +kernel
theorem dX0_hooksBetween_39 : decode cX0_hooksBetween 39 = .ok (.if_icmp .ne 9, 3) := by decide +kernel
theorem dX0_hooksBetween_42 : decode cX0_hooksBetween 42 = .ok (.iload 4, 2) := by decide +kernel
theorem dX0_hooksBetween_44 : decode cX0_hooksBetween 44 = .ok (.iload 6, 2) := by decide +kernel
theorem dX0_hooksBetween_46 : decode cX0_hooksBetween 46 = .ok (.iadd, 1) := by decide +kernel
theorem dX0_hooksBetween_47 : decode cX0_hooksBetween 47 = .ok (.ireturn, 1) := by decide +kernel
theorem dX0_hooksBetween_48 : decode cX0_hooksBetween 48 = .ok (.aload_n 0, 1) := by decide +kernel
theorem dX0_hooksBetween_49 : decode cX0_hooksBetween 49 = .ok (.iload 5, 2) := by decide +kernel
theorem dX0_hooksBetween_51 : decode cX0_hooksBetween 51 = .ok (.iconst 4, 1) := by decide +kernel
theorem dX0_hooksBetween_52 : decode cX0_hooksBetween 52 = .ok (.invokevirtual 13, 3) := by decide +kernel
theorem dX0_hooksBetween_55 : decode cX0_hooksBetween 55 = .ok (.istore 5, 2) := by decide +kernel
theorem dX0_hooksBetween_57 : decode cX0_hooksBetween 57 = .ok (.iinc 6 1, 3) := by decide +kernel
theorem dX0_hooksBetween_60 : decode cX0_hooksBetween 60 = .ok (.goto (-37), 3) := by decide +kernel
theorem dX0_hooksBetween_63 : decode cX0_hooksBetween 63 = .ok (.aload_n 0, 1) := by decide +kernel
theorem dX0_hooksBetween_64 : decode cX0_hooksBetween 64 = .ok (.iload_n 3, 1) := by decide +kernel
theorem dX0_hooksBetween_65 : decode cX0_hooksBetween 65 = .ok (.iconst 4, 1) := by decide +kernel
theorem dX0_hooksBetween_66 : decode cX0_hooksBetween 66 = .ok (.invokevirtual 13, 3) := by decide +kernel
theorem dX0_hooksBetween_69 : decode cX0_hooksBetween 69 = .ok (.istore_n 3, 1) := by decide +kernel
theorem dX0_hooksBetween_70 : decode cX0_hooksBetween 70 = .ok (.iinc 4 1, 3) := by decide +kernel
theorem dX0_hooksBetween_73 : decode cX0_hooksBetween 73 = .ok (.goto (-68), 3) := by decide +kernel
theorem dX0_hooksBetween_76 : decode cX0_hooksBetween 76 = .ok (.iconst (-1), 1) := by decide +kernel
theorem dX0_hooksBetween_77 : decode cX0_hooksBetween 77 = .ok (.ireturn, 1) := by decide +kernel
set_option maxRecDepth 20000 in
theorem ggX0_longest_X7_size : GoodIn wsX0_longest wsX7_size := goodIn_r _ [9, 10, 24, 25, 26, 27] (by decide +kernel) (by decide +kernel)
set_option maxRecDepth 20000 in
theorem gX0_longest_X7_size : GoodIn wsX0_longest (wsV RX0 19 RX7 yX7_size wsX7_size) := goodIn_app (goodIn_of _ (by decide +kernel)) ggX0_longest_X7_size
set_option maxRecDepth 20000 in
theorem ggX0_longest_X11_hasBit : GoodIn wsX0_longest wsX11_hasBit := goodIn_r _ [13] (by decide +kernel) (by decide +kernel)
set_option maxRecDepth 20000 in
theorem gX0_longest_X11_hasBit_n9 : GoodIn wsX0_longest (wsX11_hasBit) := ggX0_longest_X11_hasBit
set_option maxRecDepth 20000 in
theorem ggX0_longest_X0_hooksBetween : GoodIn wsX0_longest wsX0_hooksBetween := goodIn_r _ [17, 18, 19, 20, 8, 21, 10, 22, 23, 24, 25, 26, 27] (by decide +kernel) (by decide +kernel)
set_option maxRecDepth 20000 in
theorem gX0_longest_X0_hooksBetween : GoodIn wsX0_longest (va_wsS RX0 44 yX0_hooksBetween wsX0_hooksBetween) := goodIn_app (goodIn_of _ (by decide +kernel)) ggX0_longest_X0_hooksBetween
theorem dX0_longest_0 : decode cX0_longest 0 = .ok (.iconst 1, 1) := by decide +kernel
theorem dX0_longest_1 : decode cX0_longest 1 = .ok (.istore_n 2, 1) := by decide +kernel
theorem dX0_longest_2 : decode cX0_longest 2 = .ok (.iconst 0, 1) := by decide +kernel
theorem dX0_longest_3 : decode cX0_longest 3 = .ok (.istore_n 3, 1) := by decide +kernel
theorem dX0_longest_4 : decode cX0_longest 4 = .ok (.iload_n 3, 1) := by decide +kernel
theorem dX0_longest_5 : decode cX0_longest 5 = .ok (.aload_n 0, 1) := by decide +kernel
theorem dX0_longest_6 : decode cX0_longest 6 = .ok (.invokevirtual 19, 3) := by decide +kernel
theorem dX0_longest_9 : decode cX0_longest 9 = .ok (.if_icmp .ge 55, 3) := by decide +kernel
theorem dX0_longest_12 : decode cX0_longest 12 = .ok (.iconst 0, 1) := by decide +kernel
theorem dX0_longest_13 : decode cX0_longest 13 = .ok (.istore 4, 2) := by decide +kernel
theorem dX0_longest_15 : decode cX0_longest 15 = .ok (.iload 4, 2) := by decide +kernel
theorem dX0_longest_17 : decode cX0_longest 17 = .ok (.iload_n 3, 1) := by decide +kernel
theorem dX0_longest_18 : decode cX0_longest 18 = .ok (.if_icmp .ge 40, 3) := by decide +kernel
theorem dX0_longest_21 : decode cX0_longest 21 = .ok (.iload_n 1, 1) := by decide +kernel
theorem dX0_longest_22 : decode cX0_longest 22 = .ok (.iload_n 3, 1) := by decide +kernel
theorem dX0_longest_23 : decode cX0_longest 23 = .ok (.invokestatic 9, 3) := by decide +kernel
theorem dX0_longest_26 : decode cX0_longest 26 = .ok (.ifCond .eq 26, 3) := by decide +kernel
theorem dX0_longest_29 : decode cX0_longest 29 = .ok (.iload_n 1, 1) := by decide +kernel
theorem dX0_longest_30 : decode cX0_longest 30 = .ok (.iload 4, 2) := by decide +kernel
theorem dX0_longest_32 : decode cX0_longest 32 = .ok (.invokestatic 9, 3) := by decide +kernel
theorem dX0_longest_35 : decode cX0_longest 35 = .ok (.ifCond .eq 17, 3) := by decide +kernel
theorem dX0_longest_38 : decode cX0_longest 38 = .ok (.iload_n 2, 1) := by decide +kernel
theorem dX0_longest_39 : decode cX0_longest 39 = .ok (.aload_n 0, 1) := by decide +kernel
theorem dX0_longest_40 : decode cX0_longest 40 = .ok (.iload_n 3, 1) := by decide +kernel
theorem dX0_longest_41 : decode cX0_longest 41 = .ok (.iload 4, 2) := by decide +kernel
theorem dX0_longest_43 : decode cX0_longest 43 = .ok (.invokestatic 44, 3) := by decide +kernel
theorem dX0_longest_46 : decode cX0_longest 46 = .ok (.iconst 1, 1) := by decide +kernel
theorem dX0_longest_47 : decode cX0_longest 47 = .ok (.iadd, 1) := by decide +kernel
theorem dX0_longest_48 : decode cX0_longest 48 = .ok (.invokestatic 47, 3) := by decide +kernel
theorem dX0_longest_51 : decode cX0_longest 51 = .ok (.istore_n 2, 1) := by decide +kernel
theorem dX0_longest_52 : decode cX0_longest 52 = .ok (.iinc 4 1, 3) := by decide +kernel
theorem dX0_longest_55 : decode cX0_longest 55 = .ok (.goto (-40), 3) := by decide +kernel
theorem dX0_longest_58 : decode cX0_longest 58 = .ok (.iinc 3 1, 3) := by decide +kernel
theorem dX0_longest_61 : decode cX0_longest 61 = .ok (.goto (-57), 3) := by decide +kernel
theorem dX0_longest_64 : decode cX0_longest 64 = .ok (.iload_n 2, 1) := by decide +kernel
theorem dX0_longest_65 : decode cX0_longest 65 = .ok (.ireturn, 1) := by decide +kernel
set_option maxRecDepth 20000 in
theorem ggX1_drawn_X7_size : GoodIn wsX1_drawn wsX7_size := goodIn_r _ [9, 10, 31, 32, 33, 34] (by decide +kernel) (by decide +kernel)
set_option maxRecDepth 20000 in
theorem gX1_drawn_X7_size : GoodIn wsX1_drawn (wsV RX1 9 RX7 yX7_size wsX7_size) := goodIn_app (goodIn_of _ (by decide +kernel)) ggX1_drawn_X7_size
set_option maxRecDepth 20000 in
theorem ggX1_drawn_X11_hasBit : GoodIn wsX1_drawn wsX11_hasBit := goodIn_r _ [13] (by decide +kernel) (by decide +kernel)
set_option maxRecDepth 20000 in
theorem gX1_drawn_X11_hasBit_n15 : GoodIn wsX1_drawn (wsX11_hasBit) := ggX1_drawn_X11_hasBit
set_option maxRecDepth 20000 in
theorem ggX1_drawn_X7_get : GoodIn wsX1_drawn wsX7_get := goodIn_r _ [17, 10, 18, 19, 31, 32, 33, 34] (by decide +kernel) (by decide +kernel)
set_option maxRecDepth 20000 in
theorem gX1_drawn_X7_get : GoodIn wsX1_drawn (wsV RX1 19 RX7 yX7_get wsX7_get) := goodIn_app (goodIn_of _ (by decide +kernel)) ggX1_drawn_X7_get
set_option maxRecDepth 20000 in
theorem ggX1_drawn_X4_pulls : GoodIn wsX1_drawn wsX4_pulls := goodIn_r _ [23, 24, 25, 3, 26] (by decide +kernel) (by decide +kernel)
set_option maxRecDepth 20000 in
theorem gX1_drawn_X4_pulls : GoodIn wsX1_drawn (va_wsS RX1 29 yX4_pulls wsX4_pulls) := goodIn_app (goodIn_of _ (by decide +kernel)) ggX1_drawn_X4_pulls
set_option maxRecDepth 20000 in
theorem ggX1_drawn_J6_signum_0f7a4 : GoodIn wsX1_drawn wsJ6_signum_0f7a4 := goodIn_r _ [30] (by decide +kernel) (by decide +kernel)
set_option maxRecDepth 20000 in
theorem gX1_drawn_J6_signum_0f7a4 : GoodIn wsX1_drawn (va_wsS RX1 35 yJ6_signum_0f7a4 wsJ6_signum_0f7a4) := goodIn_app (goodIn_of _ (by decide +kernel)) ggX1_drawn_J6_signum_0f7a4
theorem dX1_drawn_0 : decode cX1_drawn 0 = .ok (.iconst 0, 1) := by decide +kernel
theorem dX1_drawn_1 : decode cX1_drawn 1 = .ok (.istore 4, 2) := by decide +kernel
theorem dX1_drawn_3 : decode cX1_drawn 3 = .ok (.iconst 0, 1) := by decide +kernel
theorem dX1_drawn_4 : decode cX1_drawn 4 = .ok (.istore 5, 2) := by decide +kernel
theorem dX1_drawn_6 : decode cX1_drawn 6 = .ok (.iload 5, 2) := by decide +kernel
theorem dX1_drawn_8 : decode cX1_drawn 8 = .ok (.aload_n 0, 1) := by decide +kernel
theorem dX1_drawn_9 : decode cX1_drawn 9 = .ok (.invokevirtual 9, 3) := by decide +kernel
theorem dX1_drawn_12 : decode cX1_drawn 12 = .ok (.if_icmp .ge 91, 3) := by decide +kernel
theorem dX1_drawn_15 : decode cX1_drawn 15 = .ok (.iconst 0, 1) := by decide +kernel
theorem dX1_drawn_16 : decode cX1_drawn 16 = .ok (.istore 6, 2) := by decide +kernel
theorem dX1_drawn_18 : decode cX1_drawn 18 = .ok (.iload 6, 2) := by decide +kernel
theorem dX1_drawn_20 : decode cX1_drawn 20 = .ok (.aload_n 1, 1) := by decide +kernel
theorem dX1_drawn_21 : decode cX1_drawn 21 = .ok (.invokevirtual 9, 3) := by decide +kernel
theorem dX1_drawn_24 : decode cX1_drawn 24 = .ok (.if_icmp .ge 73, 3) := by decide +kernel
theorem dX1_drawn_27 : decode cX1_drawn 27 = .ok (.iload_n 2, 1) := by decide +kernel
theorem dX1_drawn_28 : decode cX1_drawn 28 = .ok (.iload 5, 2) := by decide +kernel
theorem dX1_drawn_30 : decode cX1_drawn 30 = .ok (.invokestatic 15, 3) := by decide +kernel
theorem dX1_drawn_33 : decode cX1_drawn 33 = .ok (.ifCond .eq 64, 3) := by decide +kernel
theorem dX1_drawn_36 : decode cX1_drawn 36 = .ok (.aload_n 1, 1) := by decide +kernel
theorem dX1_drawn_37 : decode cX1_drawn 37 = .ok (.iload 6, 2) := by decide +kernel
theorem dX1_drawn_39 : decode cX1_drawn 39 = .ok (.iconst 1, 1) := by decide +kernel
theorem dX1_drawn_40 : decode cX1_drawn 40 = .ok (.invokevirtual 19, 3) := by decide +kernel
theorem dX1_drawn_43 : decode cX1_drawn 43 = .ok (.aload_n 0, 1) := by decide +kernel
theorem dX1_drawn_44 : decode cX1_drawn 44 = .ok (.iload 5, 2) := by decide +kernel
theorem dX1_drawn_46 : decode cX1_drawn 46 = .ok (.iconst 1, 1) := by decide +kernel
theorem dX1_drawn_47 : decode cX1_drawn 47 = .ok (.invokevirtual 19, 3) := by decide +kernel
theorem dX1_drawn_50 : decode cX1_drawn 50 = .ok (.isub, 1) := by decide +kernel
theorem dX1_drawn_51 : decode cX1_drawn 51 = .ok (.istore 7, 2) := by decide +kernel
theorem dX1_drawn_53 : decode cX1_drawn 53 = .ok (.aload_n 1, 1) := by decide +kernel
theorem dX1_drawn_54 : decode cX1_drawn 54 = .ok (.iload 6, 2) := by decide +kernel
theorem dX1_drawn_56 : decode cX1_drawn 56 = .ok (.iconst 0, 1) := by decide +kernel
theorem dX1_drawn_57 : decode cX1_drawn 57 = .ok (.invokevirtual 19, 3) := by decide +kernel
theorem dX1_drawn_60 : decode cX1_drawn 60 = .ok (.aload_n 1, 1) := by decide +kernel
theorem dX1_drawn_61 : decode cX1_drawn 61 = .ok (.iload 6, 2) := by decide +kernel
theorem dX1_drawn_63 : decode cX1_drawn 63 = .ok (.iconst 2, 1) := by decide +kernel
theorem dX1_drawn_64 : decode cX1_drawn 64 = .ok (.invokevirtual 19, 3) := by decide +kernel
theorem dX1_drawn_67 : decode cX1_drawn 67 = .ok (.iload 7, 2) := by decide +kernel
theorem dX1_drawn_69 : decode cX1_drawn 69 = .ok (.invokestatic 23, 3) := by decide +kernel
theorem dX1_drawn_72 : decode cX1_drawn 72 = .ok (.iload_n 3, 1) := by decide +kernel
theorem dX1_drawn_73 : decode cX1_drawn 73 = .ok (.invokestatic 29, 3) := by decide +kernel
theorem dX1_drawn_76 : decode cX1_drawn 76 = .ok (.istore 8, 2) := by decide +kernel
theorem dX1_drawn_78 : decode cX1_drawn 78 = .ok (.iload 4, 2) := by decide +kernel
theorem dX1_drawn_80 : decode cX1_drawn 80 = .ok (.iload 7, 2) := by decide +kernel
theorem dX1_drawn_82 : decode cX1_drawn 82 = .ok (.invokestatic 35, 3) := by decide +kernel
theorem dX1_drawn_85 : decode cX1_drawn 85 = .ok (.iload 8, 2) := by decide +kernel
theorem dX1_drawn_87 : decode cX1_drawn 87 = .ok (.imul, 1) := by decide +kernel
theorem dX1_drawn_88 : decode cX1_drawn 88 = .ok (.iadd, 1) := by decide +kernel
theorem dX1_drawn_89 : decode cX1_drawn 89 = .ok (.istore 4, 2) := by decide +kernel
theorem dX1_drawn_91 : decode cX1_drawn 91 = .ok (.iinc 6 1, 3) := by decide +kernel
theorem dX1_drawn_94 : decode cX1_drawn 94 = .ok (.goto (-76), 3) := by decide +kernel
theorem dX1_drawn_97 : decode cX1_drawn 97 = .ok (.iinc 5 1, 3) := by decide +kernel
theorem dX1_drawn_100 : decode cX1_drawn 100 = .ok (.goto (-94), 3) := by decide +kernel
theorem dX1_drawn_103 : decode cX1_drawn 103 = .ok (.iload 4, 2) := by decide +kernel
theorem dX1_drawn_105 : decode cX1_drawn 105 = .ok (.ireturn, 1) := by decide +kernel
set_option maxRecDepth 20000 in
theorem ggX1_step_X1_drawn : GoodIn wsX1_step wsX1_drawn := goodIn_r _ [8, 1, 2, 3, 4, 9, 10, 11, 12, 13, 14, 15, 16, 17, 18, 19, 20, 21, 22, 23, 24, 25, 26, 27, 28, 29, 30, 31, 32, 33, 34, 46, 47, 48, 49] (by decide +kernel) (by decide +kernel)
set_option maxRecDepth 20000 in
theorem gX1_step_X1_drawn : GoodIn wsX1_step (va_wsS RX1 40 yX1_drawn wsX1_drawn) := goodIn_app (goodIn_of _ (by decide +kernel)) ggX1_step_X1_drawn
set_option maxRecDepth 20000 in
theorem ggX1_step_X0_weight : GoodIn wsX1_step wsX0_weight := goodIn_r _ [38, 39, 10, 11, 12, 13, 14, 15, 16, 17, 40, 19, 20, 21, 22, 23, 46, 47, 48, 49] (by decide +kernel) (by decide +kernel)
set_option maxRecDepth 20000 in
theorem gX1_step_X0_weight : GoodIn wsX1_step (va_wsS RX1 46 yX0_weight wsX0_weight) := goodIn_app (goodIn_of _ (by decide +kernel)) ggX1_step_X0_weight
set_option maxRecDepth 20000 in
theorem ggX1_step_J6_signum_0f7a4 : GoodIn wsX1_step wsJ6_signum_0f7a4 := goodIn_r _ [34] (by decide +kernel) (by decide +kernel)
set_option maxRecDepth 20000 in
theorem gX1_step_J6_signum_0f7a4 : GoodIn wsX1_step (va_wsS RX1 35 yJ6_signum_0f7a4 wsJ6_signum_0f7a4) := goodIn_app (goodIn_of _ (by decide +kernel)) ggX1_step_J6_signum_0f7a4
set_option maxRecDepth 20000 in
theorem ggX1_step_X7_size : GoodIn wsX1_step wsX7_size := goodIn_r _ [13, 14, 46, 47, 48, 49] (by decide +kernel) (by decide +kernel)
set_option maxRecDepth 20000 in
theorem gX1_step_X7_size : GoodIn wsX1_step (wsV RX1 9 RX7 yX7_size wsX7_size) := goodIn_app (goodIn_of _ (by decide +kernel)) ggX1_step_X7_size
set_option maxRecDepth 20000 in
theorem ggX1_step_X11_hasBit : GoodIn wsX1_step wsX11_hasBit := goodIn_r _ [17] (by decide +kernel) (by decide +kernel)
set_option maxRecDepth 20000 in
theorem gX1_step_X11_hasBit_n15 : GoodIn wsX1_step (wsX11_hasBit) := ggX1_step_X11_hasBit
set_option maxRecDepth 20000 in
theorem ggX1_step_X7_get : GoodIn wsX1_step wsX7_get := goodIn_r _ [21, 14, 22, 23, 46, 47, 48, 49] (by decide +kernel) (by decide +kernel)
set_option maxRecDepth 20000 in
theorem gX1_step_X7_get : GoodIn wsX1_step (wsV RX1 19 RX7 yX7_get wsX7_get) := goodIn_app (goodIn_of _ (by decide +kernel)) ggX1_step_X7_get
set_option maxRecDepth 20000 in
theorem ggX1_step_X11_isDesk : GoodIn wsX1_step wsX11_isDesk := goodIn_r _ [42, 43, 44, 16, 45] (by decide +kernel) (by decide +kernel)
set_option maxRecDepth 20000 in
theorem gX1_step_X11_isDesk_n52 : GoodIn wsX1_step (wsX11_isDesk) := ggX1_step_X11_isDesk
theorem dX1_step_0 : decode cX1_step 0 = .ok (.aload_n 0, 1) := by decide +kernel
theorem dX1_step_1 : decode cX1_step 1 = .ok (.aload_n 1, 1) := by decide +kernel
theorem dX1_step_2 : decode cX1_step 2 = .ok (.iload_n 2, 1) := by decide +kernel
theorem dX1_step_3 : decode cX1_step 3 = .ok (.iload_n 3, 1) := by decide +kernel
theorem dX1_step_4 : decode cX1_step 4 = .ok (.invokestatic 40, 3) := by decide +kernel
theorem dX1_step_7 : decode cX1_step 7 = .ok (.istore 4, 2) := by decide +kernel
theorem dX1_step_9 : decode cX1_step 9 = .ok (.iload 4, 2) := by decide +kernel
theorem dX1_step_11 : decode cX1_step 11 = .ok (.invokestatic 23, 3) := by decide +kernel
theorem dX1_step_14 : decode cX1_step 14 = .ok (.aload_n 0, 1) := by decide +kernel
theorem dX1_step_15 : decode cX1_step 15 = .ok (.iload_n 2, 1) := by decide +kernel
theorem dX1_step_16 : decode cX1_step 16 = .ok (.invokestatic 46, 3) := by decide +kernel
theorem dX1_step_19 : decode cX1_step 19 = .ok (.if_icmp .ge 5, 3) := by decide +kernel
theorem dX1_step_22 : decode cX1_step 22 = .ok (.iconst 0, 1) := by decide +kernel
theorem dX1_step_23 : decode cX1_step 23 = .ok (.ireturn, 1) := by decide +kernel
theorem dX1_step_24 : decode cX1_step 24 = .ok (.iload 4, 2) := by decide +kernel
theorem dX1_step_26 : decode cX1_step 26 = .ok (.invokestatic 35, 3) := by decide +kernel
theorem dX1_step_29 : decode cX1_step 29 = .ok (.istore 5, 2) := by decide +kernel
theorem dX1_step_31 : decode cX1_step 31 = .ok (.iconst 0, 1) := by decide +kernel
theorem dX1_step_32 : decode cX1_step 32 = .ok (.istore 6, 2) := by decide +kernel
theorem dX1_step_34 : decode cX1_step 34 = .ok (.iload 6, 2) := by decide +kernel
theorem dX1_step_36 : decode cX1_step 36 = .ok (.aload_n 0, 1) := by decide +kernel
theorem dX1_step_37 : decode cX1_step 37 = .ok (.invokevirtual 9, 3) := by decide +kernel
theorem dX1_step_40 : decode cX1_step 40 = .ok (.if_icmp .ge 36, 3) := by decide +kernel
theorem dX1_step_43 : decode cX1_step 43 = .ok (.iload_n 2, 1) := by decide +kernel
theorem dX1_step_44 : decode cX1_step 44 = .ok (.iload 6, 2) := by decide +kernel
theorem dX1_step_46 : decode cX1_step 46 = .ok (.invokestatic 15, 3) := by decide +kernel
theorem dX1_step_49 : decode cX1_step 49 = .ok (.ifCond .eq 21, 3) := by decide +kernel
theorem dX1_step_52 : decode cX1_step 52 = .ok (.aload_n 0, 1) := by decide +kernel
theorem dX1_step_53 : decode cX1_step 53 = .ok (.iload 6, 2) := by decide +kernel
theorem dX1_step_55 : decode cX1_step 55 = .ok (.iconst 1, 1) := by decide +kernel
theorem dX1_step_56 : decode cX1_step 56 = .ok (.invokevirtual 19, 3) := by decide +kernel
theorem dX1_step_59 : decode cX1_step 59 = .ok (.iload 5, 2) := by decide +kernel
theorem dX1_step_61 : decode cX1_step 61 = .ok (.iadd, 1) := by decide +kernel
theorem dX1_step_62 : decode cX1_step 62 = .ok (.invokestatic 52, 3) := by decide +kernel
theorem dX1_step_65 : decode cX1_step 65 = .ok (.ifCond .ne 5, 3) := by decide +kernel
theorem dX1_step_68 : decode cX1_step 68 = .ok (.iconst 0, 1) := by decide +kernel
theorem dX1_step_69 : decode cX1_step 69 = .ok (.ireturn, 1) := by decide +kernel
theorem dX1_step_70 : decode cX1_step 70 = .ok (.iinc 6 1, 3) := by decide +kernel
theorem dX1_step_73 : decode cX1_step 73 = .ok (.goto (-39), 3) := by decide +kernel
theorem dX1_step_76 : decode cX1_step 76 = .ok (.iload 5, 2) := by decide +kernel
theorem dX1_step_78 : decode cX1_step 78 = .ok (.ireturn, 1) := by decide +kernel
set_option maxRecDepth 20000 in
theorem ggX1_move_X7_size : GoodIn wsX1_move wsX7_size := goodIn_r _ [9, 10, 24, 25, 26, 27] (by decide +kernel) (by decide +kernel)
set_option maxRecDepth 20000 in
theorem gX1_move_X7_size : GoodIn wsX1_move (wsV RX1 9 RX7 yX7_size wsX7_size) := goodIn_app (goodIn_of _ (by decide +kernel)) ggX1_move_X7_size
set_option maxRecDepth 20000 in
theorem ggX1_move_X11_hasBit : GoodIn wsX1_move wsX11_hasBit := goodIn_r _ [13] (by decide +kernel) (by decide +kernel)
set_option maxRecDepth 20000 in
theorem gX1_move_X11_hasBit_n15 : GoodIn wsX1_move (wsX11_hasBit) := ggX1_move_X11_hasBit
set_option maxRecDepth 20000 in
theorem ggX1_move_X7_get : GoodIn wsX1_move wsX7_get := goodIn_r _ [17, 10, 18, 19, 24, 25, 26, 27] (by decide +kernel) (by decide +kernel)
set_option maxRecDepth 20000 in
theorem gX1_move_X7_get : GoodIn wsX1_move (wsV RX1 19 RX7 yX7_get wsX7_get) := goodIn_app (goodIn_of _ (by decide +kernel)) ggX1_move_X7_get
set_option maxRecDepth 20000 in
theorem ggX1_move_X7_put : GoodIn wsX1_move wsX7_put := goodIn_r _ [23, 10, 18, 19, 24, 25, 26, 27] (by decide +kernel) (by decide +kernel)
set_option maxRecDepth 20000 in
theorem gX1_move_X7_put : GoodIn wsX1_move (wsV RX1 56 RX7 yX7_put wsX7_put) := goodIn_app (goodIn_of _ (by decide +kernel)) ggX1_move_X7_put
theorem dX1_move_0 : decode cX1_move 0 = .ok (.iconst 0, 1) := by decide +kernel
theorem dX1_move_1 : decode cX1_move 1 = .ok (.istore_n 3, 1) := by decide +kernel
theorem dX1_move_2 : decode cX1_move 2 = .ok (.iload_n 3, 1) := by decide +kernel
theorem dX1_move_3 : decode cX1_move 3 = .ok (.aload_n 0, 1) := by decide +kernel
theorem dX1_move_4 : decode cX1_move 4 = .ok (.invokevirtual 9, 3) := by decide +kernel
theorem dX1_move_7 : decode cX1_move 7 = .ok (.if_icmp .ge 58, 3) := by decide +kernel
theorem dX1_move_10 : decode cX1_move 10 = .ok (.iload_n 1, 1) := by decide +kernel
theorem dX1_move_11 : decode cX1_move 11 = .ok (.iload_n 3, 1) := by decide +kernel
theorem dX1_move_12 : decode cX1_move 12 = .ok (.invokestatic 15, 3) := by decide +kernel
theorem dX1_move_15 : decode cX1_move 15 = .ok (.ifCond .eq 44, 3) := by decide +kernel
theorem dX1_move_18 : decode cX1_move 18 = .ok (.aload_n 0, 1) := by decide +kernel
theorem dX1_move_19 : decode cX1_move 19 = .ok (.iload_n 3, 1) := by decide +kernel
theorem dX1_move_20 : decode cX1_move 20 = .ok (.iconst 1, 1) := by decide +kernel
theorem dX1_move_21 : decode cX1_move 21 = .ok (.aload_n 0, 1) := by decide +kernel
theorem dX1_move_22 : decode cX1_move 22 = .ok (.iload_n 3, 1) := by decide +kernel
theorem dX1_move_23 : decode cX1_move 23 = .ok (.iconst 1, 1) := by decide +kernel
theorem dX1_move_24 : decode cX1_move 24 = .ok (.invokevirtual 19, 3) := by decide +kernel
theorem dX1_move_27 : decode cX1_move 27 = .ok (.iload_n 2, 1) := by decide +kernel
theorem dX1_move_28 : decode cX1_move 28 = .ok (.iadd, 1) := by decide +kernel
theorem dX1_move_29 : decode cX1_move 29 = .ok (.invokevirtual 56, 3) := by decide +kernel
theorem dX1_move_32 : decode cX1_move 32 = .ok (.aload_n 0, 1) := by decide +kernel
theorem dX1_move_33 : decode cX1_move 33 = .ok (.iload_n 3, 1) := by decide +kernel
theorem dX1_move_34 : decode cX1_move 34 = .ok (.iconst 3, 1) := by decide +kernel
theorem dX1_move_35 : decode cX1_move 35 = .ok (.iload_n 2, 1) := by decide +kernel
theorem dX1_move_36 : decode cX1_move 36 = .ok (.ifCond .eq 7, 3) := by decide +kernel
theorem dX1_move_39 : decode cX1_move 39 = .ok (.iconst 0, 1) := by decide +kernel
theorem dX1_move_40 : decode cX1_move 40 = .ok (.goto 16, 3) := by decide +kernel
theorem dX1_move_43 : decode cX1_move 43 = .ok (.bipush 99, 2) := by decide +kernel
theorem dX1_move_45 : decode cX1_move 45 = .ok (.aload_n 0, 1) := by decide +kernel
theorem dX1_move_46 : decode cX1_move 46 = .ok (.iload_n 3, 1) := by decide +kernel
theorem dX1_move_47 : decode cX1_move 47 = .ok (.iconst 3, 1) := by decide +kernel
theorem dX1_move_48 : decode cX1_move 48 = .ok (.invokevirtual 19, 3) := by decide +kernel
theorem dX1_move_51 : decode cX1_move 51 = .ok (.iconst 1, 1) := by decide +kernel
theorem dX1_move_52 : decode cX1_move 52 = .ok (.iadd, 1) := by decide +kernel
theorem dX1_move_53 : decode cX1_move 53 = .ok (.invokestatic 60, 3) := by decide +kernel
theorem dX1_move_56 : decode cX1_move 56 = .ok (.invokevirtual 56, 3) := by decide +kernel
theorem dX1_move_59 : decode cX1_move 59 = .ok (.iinc 3 1, 3) := by decide +kernel
theorem dX1_move_62 : decode cX1_move 62 = .ok (.goto (-60), 3) := by decide +kernel
theorem dX1_move_65 : decode cX1_move 65 = .ok (.return_, 1) := by decide +kernel
set_option maxRecDepth 20000 in
theorem ggX1_passDays_X7_size : GoodIn wsX1_passDays wsX7_size := goodIn_r _ [5, 6, 65, 66, 67, 68] (by decide +kernel) (by decide +kernel)
set_option maxRecDepth 20000 in
theorem gX1_passDays_X7_size : GoodIn wsX1_passDays (wsV RX1 9 RX7 yX7_size wsX7_size) := goodIn_app (goodIn_of _ (by decide +kernel)) ggX1_passDays_X7_size
set_option maxRecDepth 20000 in
theorem ggX1_passDays_X7_get : GoodIn wsX1_passDays wsX7_get := goodIn_r _ [10, 6, 11, 12, 65, 66, 67, 68] (by decide +kernel) (by decide +kernel)
set_option maxRecDepth 20000 in
theorem gX1_passDays_X7_get : GoodIn wsX1_passDays (wsV RX1 19 RX7 yX7_get wsX7_get) := goodIn_app (goodIn_of _ (by decide +kernel)) ggX1_passDays_X7_get
set_option maxRecDepth 20000 in
theorem ggX1_passDays_X0_members : GoodIn wsX1_passDays wsX0_members := goodIn_r _ [16, 17, 18, 15, 19, 20, 21, 22, 23, 8, 9, 4, 10, 6, 11, 12, 24, 2, 3, 5, 65, 66, 67, 68] (by decide +kernel) (by decide +kernel)
set_option maxRecDepth 20000 in
theorem gX1_passDays_X0_members : GoodIn wsX1_passDays (va_wsS RX1 63 yX0_members wsX0_members) := goodIn_app (goodIn_of _ (by decide +kernel)) ggX1_passDays_X0_members
set_option maxRecDepth 20000 in
theorem ggX1_passDays_X1_step : GoodIn wsX1_passDays wsX1_step := goodIn_r _ [28, 29, 30, 31, 32, 33, 34, 27, 35, 1, 2, 3, 4, 5, 6, 20, 21, 22, 7, 8, 9, 10, 11, 12, 36, 37, 38, 39, 40, 41, 42, 43, 44, 45, 46, 47, 48, 15, 49, 24, 23, 50, 51, 52, 53, 54, 65, 66, 67, 68] (by decide +kernel) (by decide +kernel)
set_option maxRecDepth 20000 in
theorem gX1_passDays_X1_step : GoodIn wsX1_passDays (va_wsS RX1 66 yX1_step wsX1_step) := goodIn_app (goodIn_of _ (by decide +kernel)) ggX1_passDays_X1_step
set_option maxRecDepth 20000 in
theorem ggX1_passDays_X1_move : GoodIn wsX1_passDays wsX1_move := goodIn_r _ [57, 58, 59, 31, 60, 1, 2, 3, 4, 5, 6, 20, 21, 22, 7, 8, 9, 10, 11, 12, 61, 62, 63, 64, 65, 66, 67, 68] (by decide +kernel) (by decide +kernel)
set_option maxRecDepth 20000 in
theorem gX1_passDays_X1_move : GoodIn wsX1_passDays (va_wsS RX1 69 yX1_move wsX1_move) := goodIn_app (goodIn_of _ (by decide +kernel)) ggX1_passDays_X1_move
theorem dX1_passDays_0 : decode cX1_passDays 0 = .ok (.iconst 0, 1) := by decide +kernel
theorem dX1_passDays_1 : decode cX1_passDays 1 = .ok (.istore 4, 2) := by decide +kernel
theorem dX1_passDays_3 : decode cX1_passDays 3 = .ok (.iconst 0, 1) := by decide +kernel
theorem dX1_passDays_4 : decode cX1_passDays 4 = .ok (.istore 5, 2) := by decide +kernel
theorem dX1_passDays_6 : decode cX1_passDays 6 = .ok (.iload 5, 2) := by decide +kernel
theorem dX1_passDays_8 : decode cX1_passDays 8 = .ok (.iload_n 3, 1) := by decide +kernel
theorem dX1_passDays_9 : decode cX1_passDays 9 = .ok (.if_icmp .ge 85, 3) := by decide +kernel
theorem dX1_passDays_12 : decode cX1_passDays 12 = .ok (.iconst 0, 1) := by decide +kernel
theorem dX1_passDays_13 : decode cX1_passDays 13 = .ok (.istore 4, 2) := by decide +kernel
theorem dX1_passDays_15 : decode cX1_passDays 15 = .ok (.iconst 0, 1) := by decide +kernel
theorem dX1_passDays_16 : decode cX1_passDays 16 = .ok (.istore 6, 2) := by decide +kernel
theorem dX1_passDays_18 : decode cX1_passDays 18 = .ok (.iload 6, 2) := by decide +kernel
theorem dX1_passDays_20 : decode cX1_passDays 20 = .ok (.aload_n 0, 1) := by decide +kernel
theorem dX1_passDays_21 : decode cX1_passDays 21 = .ok (.invokevirtual 9, 3) := by decide +kernel
theorem dX1_passDays_24 : decode cX1_passDays 24 = .ok (.if_icmp .ge 64, 3) := by decide +kernel
theorem dX1_passDays_27 : decode cX1_passDays 27 = .ok (.aload_n 0, 1) := by decide +kernel
theorem dX1_passDays_28 : decode cX1_passDays 28 = .ok (.iload 6, 2) := by decide +kernel
theorem dX1_passDays_30 : decode cX1_passDays 30 = .ok (.iconst 4, 1) := by decide +kernel
theorem dX1_passDays_31 : decode cX1_passDays 31 = .ok (.invokevirtual 19, 3) := by decide +kernel
theorem dX1_passDays_34 : decode cX1_passDays 34 = .ok (.iconst (-1), 1) := by decide +kernel
theorem dX1_passDays_35 : decode cX1_passDays 35 = .ok (.if_icmp .ne 47, 3) := by decide +kernel
theorem dX1_passDays_38 : decode cX1_passDays 38 = .ok (.aload_n 0, 1) := by decide +kernel
theorem dX1_passDays_39 : decode cX1_passDays 39 = .ok (.iload 6, 2) := by decide +kernel
theorem dX1_passDays_41 : decode cX1_passDays 41 = .ok (.invokestatic 63, 3) := by decide +kernel
theorem dX1_passDays_44 : decode cX1_passDays 44 = .ok (.istore 7, 2) := by decide +kernel
theorem dX1_passDays_46 : decode cX1_passDays 46 = .ok (.aload_n 0, 1) := by decide +kernel
theorem dX1_passDays_47 : decode cX1_passDays 47 = .ok (.aload_n 1, 1) := by decide +kernel
theorem dX1_passDays_48 : decode cX1_passDays 48 = .ok (.iload 7, 2) := by decide +kernel
theorem dX1_passDays_50 : decode cX1_passDays 50 = .ok (.iload_n 2, 1) := by decide +kernel
theorem dX1_passDays_51 : decode cX1_passDays 51 = .ok (.iload 5, 2) := by decide +kernel
theorem dX1_passDays_53 : decode cX1_passDays 53 = .ok (.iadd, 1) := by decide +kernel
theorem dX1_passDays_54 : decode cX1_passDays 54 = .ok (.invokestatic 66, 3) := by decide +kernel
theorem dX1_passDays_57 : decode cX1_passDays 57 = .ok (.istore 8, 2) := by decide +kernel
theorem dX1_passDays_59 : decode cX1_passDays 59 = .ok (.aload_n 0, 1) := by decide +kernel
theorem dX1_passDays_60 : decode cX1_passDays 60 = .ok (.iload 7, 2) := by decide +kernel
theorem dX1_passDays_62 : decode cX1_passDays 62 = .ok (.iload 8, 2) := by decide +kernel
theorem dX1_passDays_64 : decode cX1_passDays 64 = .ok (.invokestatic 69, 3) := by decide +kernel
theorem dX1_passDays_67 : decode cX1_passDays 67 = .ok (.iload 4, 2) := by decide +kernel
theorem dX1_passDays_69 : decode cX1_passDays 69 = .ok (.iload 8, 2) := by decide +kernel
theorem dX1_passDays_71 : decode cX1_passDays 71 = .ok (.ifCond .eq 7, 3) := by decide +kernel
theorem dX1_passDays_74 : decode cX1_passDays 74 = .ok (.iconst 1, 1) := by decide +kernel
theorem dX1_passDays_75 : decode cX1_passDays 75 = .ok (.goto 4, 3) := by decide +kernel
theorem dX1_passDays_78 : decode cX1_passDays 78 = .ok (.iconst 0, 1) := by decide +kernel
theorem dX1_passDays_79 : decode cX1_passDays 79 = .ok (.iadd, 1) := by decide +kernel
theorem dX1_passDays_80 : decode cX1_passDays 80 = .ok (.istore 4, 2) := by decide +kernel
theorem dX1_passDays_82 : decode cX1_passDays 82 = .ok (.iinc 6 1, 3) := by decide +kernel
theorem dX1_passDays_85 : decode cX1_passDays 85 = .ok (.goto (-67), 3) := by decide +kernel
theorem dX1_passDays_88 : decode cX1_passDays 88 = .ok (.iinc 5 1, 3) := by decide +kernel
theorem dX1_passDays_91 : decode cX1_passDays 91 = .ok (.goto (-85), 3) := by decide +kernel
theorem dX1_passDays_94 : decode cX1_passDays 94 = .ok (.iload 4, 2) := by decide +kernel
theorem dX1_passDays_96 : decode cX1_passDays 96 = .ok (.ireturn, 1) := by decide +kernel
theorem dX2_init_0 : decode cX2_init 0 = .ok (.aload_n 0, 1) := by decide +kernel
theorem dX2_init_1 : decode cX2_init 1 = .ok (.invokespecial 1, 3) := by decide +kernel
theorem dX2_init_4 : decode cX2_init 4 = .ok (.aload_n 0, 1) := by decide +kernel
theorem dX2_init_5 : decode cX2_init 5 = .ok (.lconst 0, 1) := by decide +kernel
theorem dX2_init_6 : decode cX2_init 6 = .ok (.putfield 7, 3) := by decide +kernel
theorem dX2_init_9 : decode cX2_init 9 = .ok (.aload_n 0, 1) := by decide +kernel
theorem dX2_init_10 : decode cX2_init 10 = .ok (.lconst 1, 1) := by decide +kernel
theorem dX2_init_11 : decode cX2_init 11 = .ok (.putfield 13, 3) := by decide +kernel
theorem dX2_init_14 : decode cX2_init 14 = .ok (.return_, 1) := by decide +kernel
set_option maxRecDepth 20000 in
theorem ggX2_setPower_X2_greatestShared : GoodIn wsX2_setPower wsX2_greatestShared := goodIn_r _ [6] (by decide +kernel) (by decide +kernel)
set_option maxRecDepth 20000 in
theorem gX2_setPower_X2_greatestShared : GoodIn wsX2_setPower (va_wsS RX2 16 yX2_greatestShared wsX2_greatestShared) := goodIn_app (goodIn_of _ (by decide +kernel)) ggX2_setPower_X2_greatestShared
theorem dX2_setPower_0 : decode cX2_setPower 0 = .ok (.iload_n 1, 1) := by decide +kernel
theorem dX2_setPower_1 : decode cX2_setPower 1 = .ok (.iload_n 2, 1) := by decide +kernel
theorem dX2_setPower_2 : decode cX2_setPower 2 = .ok (.invokestatic 16, 3) := by decide +kernel
theorem dX2_setPower_5 : decode cX2_setPower 5 = .ok (.istore 4, 2) := by decide +kernel
theorem dX2_setPower_7 : decode cX2_setPower 7 = .ok (.aload_n 0, 1) := by decide +kernel
theorem dX2_setPower_8 : decode cX2_setPower 8 = .ok (.lconst 1, 1) := by decide +kernel
theorem dX2_setPower_9 : decode cX2_setPower 9 = .ok (.putfield 7, 3) := by decide +kernel
theorem dX2_setPower_12 : decode cX2_setPower 12 = .ok (.aload_n 0, 1) := by decide +kernel
theorem dX2_setPower_13 : decode cX2_setPower 13 = .ok (.lconst 1, 1) := by decide +kernel
theorem dX2_setPower_14 : decode cX2_setPower 14 = .ok (.putfield 13, 3) := by decide +kernel
theorem dX2_setPower_17 : decode cX2_setPower 17 = .ok (.iconst 0, 1) := by decide +kernel
theorem dX2_setPower_18 : decode cX2_setPower 18 = .ok (.istore 5, 2) := by decide +kernel
theorem dX2_setPower_20 : decode cX2_setPower 20 = .ok (.iload 5, 2) := by decide +kernel
theorem dX2_setPower_22 : decode cX2_setPower 22 = .ok (.iload_n 3, 1) := by decide +kernel
theorem dX2_setPower_23 : decode cX2_setPower 23 = .ok (.if_icmp .ge 55, 3) := by decide +kernel
theorem dX2_setPower_26 : decode cX2_setPower 26 = .ok (.iload 4, 2) := by decide +kernel
theorem dX2_setPower_28 : decode cX2_setPower 28 = .ok (.ifCond .le 50, 3) := by decide +kernel
theorem dX2_setPower_31 : decode cX2_setPower 31 = .ok (.aload_n 0, 1) := by decide +kernel
theorem dX2_setPower_32 : decode cX2_setPower 32 = .ok (.aload_n 0, 1) := by decide +kernel
theorem dX2_setPower_33 : decode cX2_setPower 33 = .ok (.getfield 7, 3) := by decide +kernel
theorem dX2_setPower_36 : decode cX2_setPower 36 = .ok (.iload_n 1, 1) := by decide +kernel
theorem dX2_setPower_37 : decode cX2_setPower 37 = .ok (.iload 4, 2) := by decide +kernel
theorem dX2_setPower_39 : decode cX2_setPower 39 = .ok (.idiv, 1) := by decide +kernel
theorem dX2_setPower_40 : decode cX2_setPower 40 = .ok (.i2l, 1) := by decide +kernel
theorem dX2_setPower_41 : decode cX2_setPower 41 = .ok (.lmul, 1) := by decide +kernel
theorem dX2_setPower_42 : decode cX2_setPower 42 = .ok (.putfield 7, 3) := by decide +kernel
theorem dX2_setPower_45 : decode cX2_setPower 45 = .ok (.aload_n 0, 1) := by decide +kernel
theorem dX2_setPower_46 : decode cX2_setPower 46 = .ok (.aload_n 0, 1) := by decide +kernel
theorem dX2_setPower_47 : decode cX2_setPower 47 = .ok (.getfield 7, 3) := by decide +kernel
theorem dX2_setPower_50 : decode cX2_setPower 50 = .ok (.lconst 0, 1) := by decide +kernel
theorem dX2_setPower_51 : decode cX2_setPower 51 = .ok (.lcmp, 1) := by decide +kernel
theorem dX2_setPower_52 : decode cX2_setPower 52 = .ok (.ifCond .ne 7, 3) := by decide +kernel
theorem dX2_setPower_55 : decode cX2_setPower 55 = .ok (.lconst 1, 1) := by decide +kernel
theorem dX2_setPower_56 : decode cX2_setPower 56 = .ok (.goto 13, 3) := by decide +kernel
theorem dX2_setPower_59 : decode cX2_setPower 59 = .ok (.aload_n 0, 1) := by decide +kernel
theorem dX2_setPower_60 : decode cX2_setPower 60 = .ok (.getfield 13, 3) := by decide +kernel
theorem dX2_setPower_63 : decode cX2_setPower 63 = .ok (.iload_n 2, 1) := by decide +kernel
theorem dX2_setPower_64 : decode cX2_setPower 64 = .ok (.iload 4, 2) := by decide +kernel
theorem dX2_setPower_66 : decode cX2_setPower 66 = .ok (.idiv, 1) := by decide +kernel
theorem dX2_setPower_67 : decode cX2_setPower 67 = .ok (.i2l, 1) := by decide +kernel
theorem dX2_setPower_68 : decode cX2_setPower 68 = .ok (.lmul, 1) := by decide +kernel
theorem dX2_setPower_69 : decode cX2_setPower 69 = .ok (.putfield 13, 3) := by decide +kernel
theorem dX2_setPower_72 : decode cX2_setPower 72 = .ok (.iinc 5 1, 3) := by decide +kernel
theorem dX2_setPower_75 : decode cX2_setPower 75 = .ok (.goto (-55), 3) := by decide +kernel
theorem dX2_setPower_78 : decode cX2_setPower 78 = .ok (.return_, 1) := by decide +kernel
theorem dX2_greatestShared_0 : decode cX2_greatestShared 0 = .ok (.bipush 10, 2) := by decide +kernel
theorem dX2_greatestShared_2 : decode cX2_greatestShared 2 = .ok (.istore_n 2, 1) := by decide +kernel
theorem dX2_greatestShared_3 : decode cX2_greatestShared 3 = .ok (.iload_n 2, 1) := by decide +kernel
theorem dX2_greatestShared_4 : decode cX2_greatestShared 4 = .ok (.iconst 1, 1) := by decide +kernel
theorem dX2_greatestShared_5 : decode cX2_greatestShared 5 = .ok (.if_icmp .le 23, 3) := by decide +kernel
theorem dX2_greatestShared_8 : decode cX2_greatestShared 8 = .ok (.iload_n 0, 1) := by decide +kernel
theorem dX2_greatestShared_9 : decode cX2_greatestShared 9 = .ok (.iload_n 2, 1) := by decide +kernel
theorem dX2_greatestShared_10 : decode cX2_greatestShared 10 = .ok (.irem, 1) := by decide +kernel
theorem dX2_greatestShared_11 : decode cX2_greatestShared 11 = .ok (.ifCond .ne 11, 3) := by decide +kernel
theorem dX2_greatestShared_14 : decode cX2_greatestShared 14 = .ok (.iload_n 1, 1) := by decide +kernel
theorem dX2_greatestShared_15 : decode cX2_greatestShared 15 = .ok (.iload_n 2, 1) := by decide +kernel
theorem dX2_greatestShared_16 : decode cX2_greatestShared 16 = .ok (.irem, 1) := by decide +kernel
theorem dX2_greatestShared_17 : decode cX2_greatestShared 17 = .ok (.ifCond .ne 5, 3) := by decide +kernel
theorem dX2_greatestShared_20 : decode cX2_greatestShared 20 = .ok (.iload_n 2, 1) := by decide +kernel
theorem dX2_greatestShared_21 : decode cX2_greatestShared 21 = .ok (.ireturn, 1) := by decide +kernel
theorem dX2_greatestShared_22 : decode cX2_greatestShared 22 = .ok (.iinc 2 (-1), 3) := by decide +kernel
theorem dX2_greatestShared_25 : decode cX2_greatestShared 25 = .ok (.goto (-22), 3) := by decide +kernel
theorem dX2_greatestShared_28 : decode cX2_greatestShared 28 = .ok (.iconst 1, 1) := by decide +kernel
theorem dX2_greatestShared_29 : decode cX2_greatestShared 29 = .ok (.ireturn, 1) := by decide +kernel
theorem dX3_init_0 : decode cX3_init 0 = .ok (.aload_n 0, 1) := by decide +kernel
theorem dX3_init_1 : decode cX3_init 1 = .ok (.invokespecial 3, 3) := by decide +kernel
theorem dX3_init_4 : decode cX3_init 4 = .ok (.aload_n 0, 1) := by decide +kernel
theorem dX3_init_5 : decode cX3_init 5 = .ok (.bipush 6, 2) := by decide +kernel
theorem dX3_init_7 : decode cX3_init 7 = .ok (.newarray .int, 2) := by decide +kernel
theorem dX3_init_9 : decode cX3_init 9 = .ok (.putfield 9, 3) := by decide +kernel
theorem dX3_init_12 : decode cX3_init 12 = .ok (.return_, 1) := by decide +kernel
set_option maxRecDepth 20000 in
theorem ggX3_clerkKinds_X7_size : GoodIn wsX3_clerkKinds wsX7_size := goodIn_r _ [5, 6, 24, 25, 26, 27] (by decide +kernel) (by decide +kernel)
set_option maxRecDepth 20000 in
theorem gX3_clerkKinds_X7_size : GoodIn wsX3_clerkKinds (wsV RX3 15 RX7 yX7_size wsX7_size) := goodIn_app (goodIn_of _ (by decide +kernel)) ggX3_clerkKinds_X7_size
set_option maxRecDepth 20000 in
theorem ggX3_clerkKinds_X7_get : GoodIn wsX3_clerkKinds wsX7_get := goodIn_r _ [10, 6, 11, 12, 24, 25, 26, 27] (by decide +kernel) (by decide +kernel)
set_option maxRecDepth 20000 in
theorem gX3_clerkKinds_X7_get : GoodIn wsX3_clerkKinds (wsV RX3 21 RX7 yX7_get wsX7_get) := goodIn_app (goodIn_of _ (by decide +kernel)) ggX3_clerkKinds_X7_get
set_option maxRecDepth 20000 in
theorem ggX3_clerkKinds_X4_letsGo : GoodIn wsX3_clerkKinds wsX4_letsGo := goodIn_r _ [16, 17, 18, 19, 20, 21, 22, 23] (by decide +kernel) (by decide +kernel)
set_option maxRecDepth 20000 in
theorem gX3_clerkKinds_X4_letsGo : GoodIn wsX3_clerkKinds (va_wsS RX3 25 yX4_letsGo wsX4_letsGo) := goodIn_app (goodIn_of _ (by decide +kernel)) ggX3_clerkKinds_X4_letsGo
theorem dX3_clerkKinds_0 : decode cX3_clerkKinds 0 = .ok (.iconst 0, 1) := by decide +kernel
theorem dX3_clerkKinds_1 : decode cX3_clerkKinds 1 = .ok (.istore_n 2, 1) := by decide +kernel
theorem dX3_clerkKinds_2 : decode cX3_clerkKinds 2 = .ok (.iconst 0, 1) := by decide +kernel
theorem dX3_clerkKinds_3 : decode cX3_clerkKinds 3 = .ok (.istore_n 3, 1) := by decide +kernel
theorem dX3_clerkKinds_4 : decode cX3_clerkKinds 4 = .ok (.iload_n 3, 1) := by decide +kernel
theorem dX3_clerkKinds_5 : decode cX3_clerkKinds 5 = .ok (.bipush 6, 2) := by decide +kernel
theorem dX3_clerkKinds_7 : decode cX3_clerkKinds 7 = .ok (.if_icmp .ge 98, 3) := by decide +kernel
theorem dX3_clerkKinds_10 : decode cX3_clerkKinds 10 = .ok (.iconst 1, 1) := by decide +kernel
theorem dX3_clerkKinds_11 : decode cX3_clerkKinds 11 = .ok (.istore 4, 2) := by decide +kernel
theorem dX3_clerkKinds_13 : decode cX3_clerkKinds 13 = .ok (.iconst 0, 1) := by decide +kernel
theorem dX3_clerkKinds_14 : decode cX3_clerkKinds 14 = .ok (.istore 5, 2) := by decide +kernel
theorem dX3_clerkKinds_16 : decode cX3_clerkKinds 16 = .ok (.iload 5, 2) := by decide +kernel
theorem dX3_clerkKinds_18 : decode cX3_clerkKinds 18 = .ok (.aload_n 0, 1) := by decide +kernel
theorem dX3_clerkKinds_19 : decode cX3_clerkKinds 19 = .ok (.invokevirtual 15, 3) := by decide +kernel
theorem dX3_clerkKinds_22 : decode cX3_clerkKinds 22 = .ok (.if_icmp .ge 62, 3) := by decide +kernel
theorem dX3_clerkKinds_25 : decode cX3_clerkKinds 25 = .ok (.iload_n 3, 1) := by decide +kernel
theorem dX3_clerkKinds_26 : decode cX3_clerkKinds 26 = .ok (.aload_n 0, 1) := by decide +kernel
theorem dX3_clerkKinds_27 : decode cX3_clerkKinds 27 = .ok (.iload 5, 2) := by decide +kernel
theorem dX3_clerkKinds_29 : decode cX3_clerkKinds 29 = .ok (.iconst 1, 1) := by decide +kernel
theorem dX3_clerkKinds_30 : decode cX3_clerkKinds 30 = .ok (.invokevirtual 21, 3) := by decide +kernel
theorem dX3_clerkKinds_33 : decode cX3_clerkKinds 33 = .ok (.aload_n 0, 1) := by decide +kernel
theorem dX3_clerkKinds_34 : decode cX3_clerkKinds 34 = .ok (.iload 5, 2) := by decide +kernel
theorem dX3_clerkKinds_36 : decode cX3_clerkKinds 36 = .ok (.iconst 2, 1) := by decide +kernel
theorem dX3_clerkKinds_37 : decode cX3_clerkKinds 37 = .ok (.invokevirtual 21, 3) := by decide +kernel
theorem dX3_clerkKinds_40 : decode cX3_clerkKinds 40 = .ok (.invokestatic 25, 3) := by decide +kernel
theorem dX3_clerkKinds_43 : decode cX3_clerkKinds 43 = .ok (.istore 6, 2) := by decide +kernel
theorem dX3_clerkKinds_45 : decode cX3_clerkKinds 45 = .ok (.iload 4, 2) := by decide +kernel
theorem dX3_clerkKinds_47 : decode cX3_clerkKinds 47 = .ok (.aload_n 0, 1) := by decide +kernel
theorem dX3_clerkKinds_48 : decode cX3_clerkKinds 48 = .ok (.iload 5, 2) := by decide +kernel
theorem dX3_clerkKinds_50 : decode cX3_clerkKinds 50 = .ok (.iconst 0, 1) := by decide +kernel
theorem dX3_clerkKinds_51 : decode cX3_clerkKinds 51 = .ok (.invokevirtual 21, 3) := by decide +kernel
theorem dX3_clerkKinds_54 : decode cX3_clerkKinds 54 = .ok (.iload_n 1, 1) := by decide +kernel
theorem dX3_clerkKinds_55 : decode cX3_clerkKinds 55 = .ok (.if_icmp .ne 15, 3) := by decide +kernel
theorem dX3_clerkKinds_58 : decode cX3_clerkKinds 58 = .ok (.iload 6, 2) := by decide +kernel
theorem dX3_clerkKinds_60 : decode cX3_clerkKinds 60 = .ok (.aload_n 0, 1) := by decide +kernel
theorem dX3_clerkKinds_61 : decode cX3_clerkKinds 61 = .ok (.iload 5, 2) := by decide +kernel
theorem dX3_clerkKinds_63 : decode cX3_clerkKinds 63 = .ok (.iconst 3, 1) := by decide +kernel
theorem dX3_clerkKinds_64 : decode cX3_clerkKinds 64 = .ok (.invokevirtual 21, 3) := by decide +kernel
theorem dX3_clerkKinds_67 : decode cX3_clerkKinds 67 = .ok (.if_icmp .ne 7, 3) := by decide +kernel
theorem dX3_clerkKinds_70 : decode cX3_clerkKinds 70 = .ok (.iconst 1, 1) := by decide +kernel
theorem dX3_clerkKinds_71 : decode cX3_clerkKinds 71 = .ok (.goto 4, 3) := by decide +kernel
theorem dX3_clerkKinds_74 : decode cX3_clerkKinds 74 = .ok (.iconst 0, 1) := by decide +kernel
theorem dX3_clerkKinds_75 : decode cX3_clerkKinds 75 = .ok (.iand, 1) := by decide +kernel
theorem dX3_clerkKinds_76 : decode cX3_clerkKinds 76 = .ok (.istore 4, 2) := by decide +kernel
theorem dX3_clerkKinds_78 : decode cX3_clerkKinds 78 = .ok (.iinc 5 1, 3) := by decide +kernel
theorem dX3_clerkKinds_81 : decode cX3_clerkKinds 81 = .ok (.goto (-65), 3) := by decide +kernel
theorem dX3_clerkKinds_84 : decode cX3_clerkKinds 84 = .ok (.iload_n 2, 1) := by decide +kernel
theorem dX3_clerkKinds_85 : decode cX3_clerkKinds 85 = .ok (.iload 4, 2) := by decide +kernel
theorem dX3_clerkKinds_87 : decode cX3_clerkKinds 87 = .ok (.ifCond .eq 9, 3) := by decide +kernel
theorem dX3_clerkKinds_90 : decode cX3_clerkKinds 90 = .ok (.iconst 1, 1) := by decide +kernel
theorem dX3_clerkKinds_91 : decode cX3_clerkKinds 91 = .ok (.iload_n 3, 1) := by decide +kernel
theorem dX3_clerkKinds_92 : decode cX3_clerkKinds 92 = .ok (.ishl, 1) := by decide +kernel
theorem dX3_clerkKinds_93 : decode cX3_clerkKinds 93 = .ok (.goto 4, 3) := by decide +kernel
theorem dX3_clerkKinds_96 : decode cX3_clerkKinds 96 = .ok (.iconst 0, 1) := by decide +kernel
theorem dX3_clerkKinds_97 : decode cX3_clerkKinds 97 = .ok (.ior, 1) := by decide +kernel
theorem dX3_clerkKinds_98 : decode cX3_clerkKinds 98 = .ok (.istore_n 2, 1) := by decide +kernel
theorem dX3_clerkKinds_99 : decode cX3_clerkKinds 99 = .ok (.iinc 3 1, 3) := by decide +kernel
theorem dX3_clerkKinds_102 : decode cX3_clerkKinds 102 = .ok (.goto (-98), 3) := by decide +kernel
theorem dX3_clerkKinds_105 : decode cX3_clerkKinds 105 = .ok (.iload_n 2, 1) := by decide +kernel
theorem dX3_clerkKinds_106 : decode cX3_clerkKinds 106 = .ok (.ireturn, 1) := by decide +kernel
set_option maxRecDepth 20000 in
theorem ggX3_magnetKinds_X7_size : GoodIn wsX3_magnetKinds wsX7_size := goodIn_r _ [5, 6, 21, 22, 23, 24] (by decide +kernel) (by decide +kernel)
set_option maxRecDepth 20000 in
theorem gX3_magnetKinds_X7_size : GoodIn wsX3_magnetKinds (wsV RX3 15 RX7 yX7_size wsX7_size) := goodIn_app (goodIn_of _ (by decide +kernel)) ggX3_magnetKinds_X7_size
set_option maxRecDepth 20000 in
theorem ggX3_magnetKinds_X7_get : GoodIn wsX3_magnetKinds wsX7_get := goodIn_r _ [10, 6, 11, 12, 21, 22, 23, 24] (by decide +kernel) (by decide +kernel)
set_option maxRecDepth 20000 in
theorem gX3_magnetKinds_X7_get : GoodIn wsX3_magnetKinds (wsV RX3 21 RX7 yX7_get wsX7_get) := goodIn_app (goodIn_of _ (by decide +kernel)) ggX3_magnetKinds_X7_get
set_option maxRecDepth 20000 in
theorem ggX3_magnetKinds_X4_pulls : GoodIn wsX3_magnetKinds wsX4_pulls := goodIn_r _ [16, 17, 18, 19, 20] (by decide +kernel) (by decide +kernel)
set_option maxRecDepth 20000 in
theorem gX3_magnetKinds_X4_pulls : GoodIn wsX3_magnetKinds (va_wsS RX3 31 yX4_pulls wsX4_pulls) := goodIn_app (goodIn_of _ (by decide +kernel)) ggX3_magnetKinds_X4_pulls
theorem dX3_magnetKinds_0 : decode cX3_magnetKinds 0 = .ok (.iconst 0, 1) := by decide +kernel
theorem dX3_magnetKinds_1 : decode cX3_magnetKinds 1 = .ok (.istore_n 2, 1) := by decide +kernel
theorem dX3_magnetKinds_2 : decode cX3_magnetKinds 2 = .ok (.iconst 0, 1) := by decide +kernel
theorem dX3_magnetKinds_3 : decode cX3_magnetKinds 3 = .ok (.istore_n 3, 1) := by decide +kernel
theorem dX3_magnetKinds_4 : decode cX3_magnetKinds 4 = .ok (.iload_n 3, 1) := by decide +kernel
theorem dX3_magnetKinds_5 : decode cX3_magnetKinds 5 = .ok (.bipush 6, 2) := by decide +kernel
theorem dX3_magnetKinds_7 : decode cX3_magnetKinds 7 = .ok (.if_icmp .ge 105, 3) := by decide +kernel
theorem dX3_magnetKinds_10 : decode cX3_magnetKinds 10 = .ok (.iconst 1, 1) := by decide +kernel
theorem dX3_magnetKinds_11 : decode cX3_magnetKinds 11 = .ok (.istore 4, 2) := by decide +kernel
theorem dX3_magnetKinds_13 : decode cX3_magnetKinds 13 = .ok (.iconst 0, 1) := by decide +kernel
theorem dX3_magnetKinds_14 : decode cX3_magnetKinds 14 = .ok (.istore 5, 2) := by decide +kernel
theorem dX3_magnetKinds_16 : decode cX3_magnetKinds 16 = .ok (.iload 5, 2) := by decide +kernel
theorem dX3_magnetKinds_18 : decode cX3_magnetKinds 18 = .ok (.aload_n 0, 1) := by decide +kernel
theorem dX3_magnetKinds_19 : decode cX3_magnetKinds 19 = .ok (.invokevirtual 15, 3) := by decide +kernel
theorem dX3_magnetKinds_22 : decode cX3_magnetKinds 22 = .ok (.if_icmp .ge 69, 3) := by decide +kernel
theorem dX3_magnetKinds_25 : decode cX3_magnetKinds 25 = .ok (.iload_n 3, 1) := by decide +kernel
theorem dX3_magnetKinds_26 : decode cX3_magnetKinds 26 = .ok (.aload_n 0, 1) := by decide +kernel
theorem dX3_magnetKinds_27 : decode cX3_magnetKinds 27 = .ok (.iload 5, 2) := by decide +kernel
theorem dX3_magnetKinds_29 : decode cX3_magnetKinds 29 = .ok (.iconst 1, 1) := by decide +kernel
theorem dX3_magnetKinds_30 : decode cX3_magnetKinds 30 = .ok (.invokevirtual 21, 3) := by decide +kernel
theorem dX3_magnetKinds_33 : decode cX3_magnetKinds 33 = .ok (.aload_n 0, 1) := by decide +kernel
theorem dX3_magnetKinds_34 : decode cX3_magnetKinds 34 = .ok (.iload 5, 2) := by decide +kernel
theorem dX3_magnetKinds_36 : decode cX3_magnetKinds 36 = .ok (.iconst 2, 1) := by decide +kernel
theorem dX3_magnetKinds_37 : decode cX3_magnetKinds 37 = .ok (.invokevirtual 21, 3) := by decide +kernel
theorem dX3_magnetKinds_40 : decode cX3_magnetKinds 40 = .ok (.aload_n 0, 1) := by decide +kernel
theorem dX3_magnetKinds_41 : decode cX3_magnetKinds 41 = .ok (.iload 5, 2) := by decide +kernel
theorem dX3_magnetKinds_43 : decode cX3_magnetKinds 43 = .ok (.iconst 3, 1) := by decide +kernel
theorem dX3_magnetKinds_44 : decode cX3_magnetKinds 44 = .ok (.invokevirtual 21, 3) := by decide +kernel
theorem dX3_magnetKinds_47 : decode cX3_magnetKinds 47 = .ok (.invokestatic 31, 3) := by decide +kernel
theorem dX3_magnetKinds_50 : decode cX3_magnetKinds 50 = .ok (.istore 6, 2) := by decide +kernel
theorem dX3_magnetKinds_52 : decode cX3_magnetKinds 52 = .ok (.iload 4, 2) := by decide +kernel
theorem dX3_magnetKinds_54 : decode cX3_magnetKinds 54 = .ok (.aload_n 0, 1) := by decide +kernel
theorem dX3_magnetKinds_55 : decode cX3_magnetKinds 55 = .ok (.iload 5, 2) := by decide +kernel
theorem dX3_magnetKinds_57 : decode cX3_magnetKinds 57 = .ok (.iconst 0, 1) := by decide +kernel
theorem dX3_magnetKinds_58 : decode cX3_magnetKinds 58 = .ok (.invokevirtual 21, 3) := by decide +kernel
theorem dX3_magnetKinds_61 : decode cX3_magnetKinds 61 = .ok (.iload_n 1, 1) := by decide +kernel
theorem dX3_magnetKinds_62 : decode cX3_magnetKinds 62 = .ok (.if_icmp .ne 15, 3) := by decide +kernel
theorem dX3_magnetKinds_65 : decode cX3_magnetKinds 65 = .ok (.iload 6, 2) := by decide +kernel
theorem dX3_magnetKinds_67 : decode cX3_magnetKinds 67 = .ok (.aload_n 0, 1) := by decide +kernel
theorem dX3_magnetKinds_68 : decode cX3_magnetKinds 68 = .ok (.iload 5, 2) := by decide +kernel
theorem dX3_magnetKinds_70 : decode cX3_magnetKinds 70 = .ok (.iconst 4, 1) := by decide +kernel
theorem dX3_magnetKinds_71 : decode cX3_magnetKinds 71 = .ok (.invokevirtual 21, 3) := by decide +kernel
theorem dX3_magnetKinds_74 : decode cX3_magnetKinds 74 = .ok (.if_icmp .ne 7, 3) := by decide +kernel
theorem dX3_magnetKinds_77 : decode cX3_magnetKinds 77 = .ok (.iconst 1, 1) := by decide +kernel
theorem dX3_magnetKinds_78 : decode cX3_magnetKinds 78 = .ok (.goto 4, 3) := by decide +kernel
theorem dX3_magnetKinds_81 : decode cX3_magnetKinds 81 = .ok (.iconst 0, 1) := by decide +kernel
theorem dX3_magnetKinds_82 : decode cX3_magnetKinds 82 = .ok (.iand, 1) := by decide +kernel
theorem dX3_magnetKinds_83 : decode cX3_magnetKinds 83 = .ok (.istore 4, 2) := by decide +kernel
theorem dX3_magnetKinds_85 : decode cX3_magnetKinds 85 = .ok (.iinc 5 1, 3) := by decide +kernel
theorem dX3_magnetKinds_88 : decode cX3_magnetKinds 88 = .ok (.goto (-72), 3) := by decide +kernel
theorem dX3_magnetKinds_91 : decode cX3_magnetKinds 91 = .ok (.iload_n 2, 1) := by decide +kernel
theorem dX3_magnetKinds_92 : decode cX3_magnetKinds 92 = .ok (.iload 4, 2) := by decide +kernel
theorem dX3_magnetKinds_94 : decode cX3_magnetKinds 94 = .ok (.ifCond .eq 9, 3) := by decide +kernel
theorem dX3_magnetKinds_97 : decode cX3_magnetKinds 97 = .ok (.iconst 1, 1) := by decide +kernel
theorem dX3_magnetKinds_98 : decode cX3_magnetKinds 98 = .ok (.iload_n 3, 1) := by decide +kernel
theorem dX3_magnetKinds_99 : decode cX3_magnetKinds 99 = .ok (.ishl, 1) := by decide +kernel
theorem dX3_magnetKinds_100 : decode cX3_magnetKinds 100 = .ok (.goto 4, 3) := by decide +kernel
theorem dX3_magnetKinds_103 : decode cX3_magnetKinds 103 = .ok (.iconst 0, 1) := by decide +kernel
theorem dX3_magnetKinds_104 : decode cX3_magnetKinds 104 = .ok (.ior, 1) := by decide +kernel
theorem dX3_magnetKinds_105 : decode cX3_magnetKinds 105 = .ok (.istore_n 2, 1) := by decide +kernel
theorem dX3_magnetKinds_106 : decode cX3_magnetKinds 106 = .ok (.iinc 3 1, 3) := by decide +kernel
theorem dX3_magnetKinds_109 : decode cX3_magnetKinds 109 = .ok (.goto (-105), 3) := by decide +kernel
theorem dX3_magnetKinds_112 : decode cX3_magnetKinds 112 = .ok (.iload_n 2, 1) := by decide +kernel
theorem dX3_magnetKinds_113 : decode cX3_magnetKinds 113 = .ok (.ireturn, 1) := by decide +kernel
set_option maxRecDepth 20000 in
theorem ggX3_nextLook_X4_letsGo : GoodIn wsX3_nextLook wsX4_letsGo := goodIn_r _ [5, 6, 7, 8, 9, 10, 11, 12] (by decide +kernel) (by decide +kernel)
set_option maxRecDepth 20000 in
theorem gX3_nextLook_X4_letsGo : GoodIn wsX3_nextLook (va_wsS RX3 25 yX4_letsGo wsX4_letsGo) := goodIn_app (goodIn_of _ (by decide +kernel)) ggX3_nextLook_X4_letsGo
set_option maxRecDepth 20000 in
theorem ggX3_nextLook_X11_setCell : GoodIn wsX3_nextLook wsX11_setCell := goodIn_r _ [15] (by decide +kernel) (by decide +kernel)
set_option maxRecDepth 20000 in
theorem gX3_nextLook_X11_setCell_n35 : GoodIn wsX3_nextLook (wsX11_setCell) := ggX3_nextLook_X11_setCell
set_option maxRecDepth 20000 in
theorem ggX3_nextLook_X3_mostAlike : GoodIn wsX3_nextLook wsX3_mostAlike := goodIn_r _ [20, 1, 21, 11, 8, 12, 22, 14, 23, 24, 25, 26] (by decide +kernel) (by decide +kernel)
set_option maxRecDepth 20000 in
theorem gX3_nextLook_X3_mostAlike : GoodIn wsX3_nextLook (wsV RX3 39 RX3 yX3_mostAlike wsX3_mostAlike) := goodIn_app (goodIn_of _ (by decide +kernel)) ggX3_nextLook_X3_mostAlike
theorem dX3_nextLook_0 : decode cX3_nextLook 0 = .ok (.iconst (-1), 1) := by decide +kernel
theorem dX3_nextLook_1 : decode cX3_nextLook 1 = .ok (.istore_n 2, 1) := by decide +kernel
theorem dX3_nextLook_2 : decode cX3_nextLook 2 = .ok (.iload_n 1, 1) := by decide +kernel
theorem dX3_nextLook_3 : decode cX3_nextLook 3 = .ok (.ifCond .ne 7, 3) := by decide +kernel
theorem dX3_nextLook_6 : decode cX3_nextLook 6 = .ok (.iconst 0, 1) := by decide +kernel
theorem dX3_nextLook_7 : decode cX3_nextLook 7 = .ok (.goto 5, 3) := by decide +kernel
theorem dX3_nextLook_10 : decode cX3_nextLook 10 = .ok (.bipush 7, 2) := by decide +kernel
theorem dX3_nextLook_12 : decode cX3_nextLook 12 = .ok (.istore_n 3, 1) := by decide +kernel
theorem dX3_nextLook_13 : decode cX3_nextLook 13 = .ok (.iconst 1, 1) := by decide +kernel
theorem dX3_nextLook_14 : decode cX3_nextLook 14 = .ok (.istore 4, 2) := by decide +kernel
theorem dX3_nextLook_16 : decode cX3_nextLook 16 = .ok (.iload 4, 2) := by decide +kernel
theorem dX3_nextLook_18 : decode cX3_nextLook 18 = .ok (.bipush 20, 2) := by decide +kernel
theorem dX3_nextLook_20 : decode cX3_nextLook 20 = .ok (.if_icmp .gt 84, 3) := by decide +kernel
theorem dX3_nextLook_23 : decode cX3_nextLook 23 = .ok (.iconst 0, 1) := by decide +kernel
theorem dX3_nextLook_24 : decode cX3_nextLook 24 = .ok (.istore 5, 2) := by decide +kernel
theorem dX3_nextLook_26 : decode cX3_nextLook 26 = .ok (.iload 5, 2) := by decide +kernel
theorem dX3_nextLook_28 : decode cX3_nextLook 28 = .ok (.bipush 9, 2) := by decide +kernel
theorem dX3_nextLook_30 : decode cX3_nextLook 30 = .ok (.if_icmp .gt 68, 3) := by decide +kernel
theorem dX3_nextLook_33 : decode cX3_nextLook 33 = .ok (.iconst 0, 1) := by decide +kernel
theorem dX3_nextLook_34 : decode cX3_nextLook 34 = .ok (.istore 6, 2) := by decide +kernel
theorem dX3_nextLook_36 : decode cX3_nextLook 36 = .ok (.iload 6, 2) := by decide +kernel
theorem dX3_nextLook_38 : decode cX3_nextLook 38 = .ok (.bipush 6, 2) := by decide +kernel
theorem dX3_nextLook_40 : decode cX3_nextLook 40 = .ok (.if_icmp .ge 27, 3) := by decide +kernel
theorem dX3_nextLook_43 : decode cX3_nextLook 43 = .ok (.aload_n 0, 1) := by decide +kernel
theorem dX3_nextLook_44 : decode cX3_nextLook 44 = .ok (.getfield 9, 3) := by decide +kernel
theorem dX3_nextLook_47 : decode cX3_nextLook 47 = .ok (.iload 6, 2) := by decide +kernel
theorem dX3_nextLook_49 : decode cX3_nextLook 49 = .ok (.iload 6, 2) := by decide +kernel
theorem dX3_nextLook_51 : decode cX3_nextLook 51 = .ok (.iload 4, 2) := by decide +kernel
theorem dX3_nextLook_53 : decode cX3_nextLook 53 = .ok (.iload 5, 2) := by decide +kernel
theorem dX3_nextLook_55 : decode cX3_nextLook 55 = .ok (.invokestatic 25, 3) := by decide +kernel
theorem dX3_nextLook_58 : decode cX3_nextLook 58 = .ok (.invokestatic 35, 3) := by decide +kernel
theorem dX3_nextLook_61 : decode cX3_nextLook 61 = .ok (.iinc 6 1, 3) := by decide +kernel
theorem dX3_nextLook_64 : decode cX3_nextLook 64 = .ok (.goto (-28), 3) := by decide +kernel
theorem dX3_nextLook_67 : decode cX3_nextLook 67 = .ok (.aload_n 0, 1) := by decide +kernel
theorem dX3_nextLook_68 : decode cX3_nextLook 68 = .ok (.iload_n 1, 1) := by decide +kernel
theorem dX3_nextLook_69 : decode cX3_nextLook 69 = .ok (.invokevirtual 39, 3) := by decide +kernel
theorem dX3_nextLook_72 : decode cX3_nextLook 72 = .ok (.istore 6, 2) := by decide +kernel
theorem dX3_nextLook_74 : decode cX3_nextLook 74 = .ok (.iload 6, 2) := by decide +kernel
theorem dX3_nextLook_76 : decode cX3_nextLook 76 = .ok (.iload_n 3, 1) := by decide +kernel
theorem dX3_nextLook_77 : decode cX3_nextLook 77 = .ok (.if_icmp .ge 15, 3) := by decide +kernel
theorem dX3_nextLook_80 : decode cX3_nextLook 80 = .ok (.iload 6, 2) := by decide +kernel
theorem dX3_nextLook_82 : decode cX3_nextLook 82 = .ok (.istore_n 3, 1) := by decide +kernel
theorem dX3_nextLook_83 : decode cX3_nextLook 83 = .ok (.bipush 10, 2) := by decide +kernel
theorem dX3_nextLook_85 : decode cX3_nextLook 85 = .ok (.iload 4, 2) := by decide +kernel
theorem dX3_nextLook_87 : decode cX3_nextLook 87 = .ok (.imul, 1) := by decide +kernel
theorem dX3_nextLook_88 : decode cX3_nextLook 88 = .ok (.iload 5, 2) := by decide +kernel
theorem dX3_nextLook_90 : decode cX3_nextLook 90 = .ok (.iadd, 1) := by decide +kernel
theorem dX3_nextLook_91 : decode cX3_nextLook 91 = .ok (.istore_n 2, 1) := by decide +kernel
theorem dX3_nextLook_92 : decode cX3_nextLook 92 = .ok (.iinc 5 1, 3) := by decide +kernel
theorem dX3_nextLook_95 : decode cX3_nextLook 95 = .ok (.goto (-69), 3) := by decide +kernel
theorem dX3_nextLook_98 : decode cX3_nextLook 98 = .ok (.iinc 4 1, 3) := by decide +kernel
theorem dX3_nextLook_101 : decode cX3_nextLook 101 = .ok (.goto (-85), 3) := by decide +kernel
theorem dX3_nextLook_104 : decode cX3_nextLook 104 = .ok (.iload_n 2, 1) := by decide +kernel
theorem dX3_nextLook_105 : decode cX3_nextLook 105 = .ok (.ireturn, 1) := by decide +kernel
set_option maxRecDepth 20000 in
theorem ggX3_nextAsk_X4_pulls : GoodIn wsX3_nextAsk wsX4_pulls := goodIn_r _ [5, 6, 7, 8, 9] (by decide +kernel) (by decide +kernel)
set_option maxRecDepth 20000 in
theorem gX3_nextAsk_X4_pulls : GoodIn wsX3_nextAsk (va_wsS RX3 31 yX4_pulls wsX4_pulls) := goodIn_app (goodIn_of _ (by decide +kernel)) ggX3_nextAsk_X4_pulls
set_option maxRecDepth 20000 in
theorem ggX3_nextAsk_X11_setCell : GoodIn wsX3_nextAsk wsX11_setCell := goodIn_r _ [12] (by decide +kernel) (by decide +kernel)
set_option maxRecDepth 20000 in
theorem gX3_nextAsk_X11_setCell_n35 : GoodIn wsX3_nextAsk (wsX11_setCell) := ggX3_nextAsk_X11_setCell
set_option maxRecDepth 20000 in
theorem ggX3_nextAsk_X3_mostAlike : GoodIn wsX3_nextAsk wsX3_mostAlike := goodIn_r _ [17, 1, 18, 7, 8, 9, 19, 11, 20, 21, 22, 23] (by decide +kernel) (by decide +kernel)
set_option maxRecDepth 20000 in
theorem gX3_nextAsk_X3_mostAlike : GoodIn wsX3_nextAsk (wsV RX3 39 RX3 yX3_mostAlike wsX3_mostAlike) := goodIn_app (goodIn_of _ (by decide +kernel)) ggX3_nextAsk_X3_mostAlike
theorem dX3_nextAsk_0 : decode cX3_nextAsk 0 = .ok (.iconst (-1), 1) := by decide +kernel
theorem dX3_nextAsk_1 : decode cX3_nextAsk 1 = .ok (.istore_n 3, 1) := by decide +kernel
theorem dX3_nextAsk_2 : decode cX3_nextAsk 2 = .ok (.iload_n 1, 1) := by decide +kernel
theorem dX3_nextAsk_3 : decode cX3_nextAsk 3 = .ok (.ifCond .ne 7, 3) := by decide +kernel
theorem dX3_nextAsk_6 : decode cX3_nextAsk 6 = .ok (.iconst 0, 1) := by decide +kernel
theorem dX3_nextAsk_7 : decode cX3_nextAsk 7 = .ok (.goto 5, 3) := by decide +kernel
theorem dX3_nextAsk_10 : decode cX3_nextAsk 10 = .ok (.bipush 7, 2) := by decide +kernel
theorem dX3_nextAsk_12 : decode cX3_nextAsk 12 = .ok (.istore 4, 2) := by decide +kernel
theorem dX3_nextAsk_14 : decode cX3_nextAsk 14 = .ok (.iconst 0, 1) := by decide +kernel
theorem dX3_nextAsk_15 : decode cX3_nextAsk 15 = .ok (.istore 5, 2) := by decide +kernel
theorem dX3_nextAsk_17 : decode cX3_nextAsk 17 = .ok (.iload 5, 2) := by decide +kernel
theorem dX3_nextAsk_19 : decode cX3_nextAsk 19 = .ok (.iconst 1, 1) := by decide +kernel
theorem dX3_nextAsk_20 : decode cX3_nextAsk 20 = .ok (.if_icmp .gt 87, 3) := by decide +kernel
theorem dX3_nextAsk_23 : decode cX3_nextAsk 23 = .ok (.iconst 0, 1) := by decide +kernel
theorem dX3_nextAsk_24 : decode cX3_nextAsk 24 = .ok (.istore 6, 2) := by decide +kernel
theorem dX3_nextAsk_26 : decode cX3_nextAsk 26 = .ok (.iload 6, 2) := by decide +kernel
theorem dX3_nextAsk_28 : decode cX3_nextAsk 28 = .ok (.bipush 11, 2) := by decide +kernel
theorem dX3_nextAsk_30 : decode cX3_nextAsk 30 = .ok (.if_icmp .gt 71, 3) := by decide +kernel
theorem dX3_nextAsk_33 : decode cX3_nextAsk 33 = .ok (.iconst 0, 1) := by decide +kernel
theorem dX3_nextAsk_34 : decode cX3_nextAsk 34 = .ok (.istore 7, 2) := by decide +kernel
theorem dX3_nextAsk_36 : decode cX3_nextAsk 36 = .ok (.iload 7, 2) := by decide +kernel
theorem dX3_nextAsk_38 : decode cX3_nextAsk 38 = .ok (.bipush 6, 2) := by decide +kernel
theorem dX3_nextAsk_40 : decode cX3_nextAsk 40 = .ok (.if_icmp .ge 28, 3) := by decide +kernel
theorem dX3_nextAsk_43 : decode cX3_nextAsk 43 = .ok (.aload_n 0, 1) := by decide +kernel
theorem dX3_nextAsk_44 : decode cX3_nextAsk 44 = .ok (.getfield 9, 3) := by decide +kernel
theorem dX3_nextAsk_47 : decode cX3_nextAsk 47 = .ok (.iload 7, 2) := by decide +kernel
theorem dX3_nextAsk_49 : decode cX3_nextAsk 49 = .ok (.iload 7, 2) := by decide +kernel
theorem dX3_nextAsk_51 : decode cX3_nextAsk 51 = .ok (.iload_n 2, 1) := by decide +kernel
theorem dX3_nextAsk_52 : decode cX3_nextAsk 52 = .ok (.iload 6, 2) := by decide +kernel
theorem dX3_nextAsk_54 : decode cX3_nextAsk 54 = .ok (.iload 5, 2) := by decide +kernel
theorem dX3_nextAsk_56 : decode cX3_nextAsk 56 = .ok (.invokestatic 31, 3) := by decide +kernel
theorem dX3_nextAsk_59 : decode cX3_nextAsk 59 = .ok (.invokestatic 35, 3) := by decide +kernel
theorem dX3_nextAsk_62 : decode cX3_nextAsk 62 = .ok (.iinc 7 1, 3) := by decide +kernel
theorem dX3_nextAsk_65 : decode cX3_nextAsk 65 = .ok (.goto (-29), 3) := by decide +kernel
theorem dX3_nextAsk_68 : decode cX3_nextAsk 68 = .ok (.aload_n 0, 1) := by decide +kernel
theorem dX3_nextAsk_69 : decode cX3_nextAsk 69 = .ok (.iload_n 1, 1) := by decide +kernel
theorem dX3_nextAsk_70 : decode cX3_nextAsk 70 = .ok (.invokevirtual 39, 3) := by decide +kernel
theorem dX3_nextAsk_73 : decode cX3_nextAsk 73 = .ok (.istore 7, 2) := by decide +kernel
theorem dX3_nextAsk_75 : decode cX3_nextAsk 75 = .ok (.iload 7, 2) := by decide +kernel
theorem dX3_nextAsk_77 : decode cX3_nextAsk 77 = .ok (.iload 4, 2) := by decide +kernel
theorem dX3_nextAsk_79 : decode cX3_nextAsk 79 = .ok (.if_icmp .ge 16, 3) := by decide +kernel
theorem dX3_nextAsk_82 : decode cX3_nextAsk 82 = .ok (.iload 7, 2) := by decide +kernel
theorem dX3_nextAsk_84 : decode cX3_nextAsk 84 = .ok (.istore 4, 2) := by decide +kernel
theorem dX3_nextAsk_86 : decode cX3_nextAsk 86 = .ok (.bipush 100, 2) := by decide +kernel
theorem dX3_nextAsk_88 : decode cX3_nextAsk 88 = .ok (.iload 5, 2) := by decide +kernel
theorem dX3_nextAsk_90 : decode cX3_nextAsk 90 = .ok (.imul, 1) := by decide +kernel
theorem dX3_nextAsk_91 : decode cX3_nextAsk 91 = .ok (.iload 6, 2) := by decide +kernel
theorem dX3_nextAsk_93 : decode cX3_nextAsk 93 = .ok (.iadd, 1) := by decide +kernel
theorem dX3_nextAsk_94 : decode cX3_nextAsk 94 = .ok (.istore_n 3, 1) := by decide +kernel
theorem dX3_nextAsk_95 : decode cX3_nextAsk 95 = .ok (.iinc 6 1, 3) := by decide +kernel
theorem dX3_nextAsk_98 : decode cX3_nextAsk 98 = .ok (.goto (-72), 3) := by decide +kernel
theorem dX3_nextAsk_101 : decode cX3_nextAsk 101 = .ok (.iinc 5 1, 3) := by decide +kernel
theorem dX3_nextAsk_104 : decode cX3_nextAsk 104 = .ok (.goto (-87), 3) := by decide +kernel
theorem dX3_nextAsk_107 : decode cX3_nextAsk 107 = .ok (.iload_n 3, 1) := by decide +kernel
theorem dX3_nextAsk_108 : decode cX3_nextAsk 108 = .ok (.ireturn, 1) := by decide +kernel
set_option maxRecDepth 20000 in
theorem ggX3_mostAlike_X11_hasBit : GoodIn wsX3_mostAlike wsX11_hasBit := goodIn_r _ [8] (by decide +kernel) (by decide +kernel)
set_option maxRecDepth 20000 in
theorem gX3_mostAlike_X11_hasBit_n43 : GoodIn wsX3_mostAlike (wsX11_hasBit) := ggX3_mostAlike_X11_hasBit
set_option maxRecDepth 20000 in
theorem ggX3_mostAlike_X11_cell : GoodIn wsX3_mostAlike wsX11_cell := goodIn_r _ [10] (by decide +kernel) (by decide +kernel)
set_option maxRecDepth 20000 in
theorem gX3_mostAlike_X11_cell_n47 : GoodIn wsX3_mostAlike (wsX11_cell) := ggX3_mostAlike_X11_cell
theorem dX3_mostAlike_0 : decode cX3_mostAlike 0 = .ok (.iconst 0, 1) := by decide +kernel
theorem dX3_mostAlike_1 : decode cX3_mostAlike 1 = .ok (.istore_n 2, 1) := by decide +kernel
theorem dX3_mostAlike_2 : decode cX3_mostAlike 2 = .ok (.iconst 0, 1) := by decide +kernel
theorem dX3_mostAlike_3 : decode cX3_mostAlike 3 = .ok (.istore_n 3, 1) := by decide +kernel
theorem dX3_mostAlike_4 : decode cX3_mostAlike 4 = .ok (.iload_n 3, 1) := by decide +kernel
theorem dX3_mostAlike_5 : decode cX3_mostAlike 5 = .ok (.bipush 6, 2) := by decide +kernel
theorem dX3_mostAlike_7 : decode cX3_mostAlike 7 = .ok (.if_icmp .ge 94, 3) := by decide +kernel
theorem dX3_mostAlike_10 : decode cX3_mostAlike 10 = .ok (.iconst 0, 1) := by decide +kernel
theorem dX3_mostAlike_11 : decode cX3_mostAlike 11 = .ok (.istore 4, 2) := by decide +kernel
theorem dX3_mostAlike_13 : decode cX3_mostAlike 13 = .ok (.iconst 0, 1) := by decide +kernel
theorem dX3_mostAlike_14 : decode cX3_mostAlike 14 = .ok (.istore 5, 2) := by decide +kernel
theorem dX3_mostAlike_16 : decode cX3_mostAlike 16 = .ok (.iload 5, 2) := by decide +kernel
theorem dX3_mostAlike_18 : decode cX3_mostAlike 18 = .ok (.bipush 6, 2) := by decide +kernel
theorem dX3_mostAlike_20 : decode cX3_mostAlike 20 = .ok (.if_icmp .ge 68, 3) := by decide +kernel
theorem dX3_mostAlike_23 : decode cX3_mostAlike 23 = .ok (.iload_n 1, 1) := by decide +kernel
theorem dX3_mostAlike_24 : decode cX3_mostAlike 24 = .ok (.iload_n 3, 1) := by decide +kernel
theorem dX3_mostAlike_25 : decode cX3_mostAlike 25 = .ok (.invokestatic 43, 3) := by decide +kernel
theorem dX3_mostAlike_28 : decode cX3_mostAlike 28 = .ok (.ifCond .eq 60, 3) := by decide +kernel
theorem dX3_mostAlike_31 : decode cX3_mostAlike 31 = .ok (.iload_n 1, 1) := by decide +kernel
theorem dX3_mostAlike_32 : decode cX3_mostAlike 32 = .ok (.iload 5, 2) := by decide +kernel
theorem dX3_mostAlike_34 : decode cX3_mostAlike 34 = .ok (.invokestatic 43, 3) := by decide +kernel
theorem dX3_mostAlike_37 : decode cX3_mostAlike 37 = .ok (.ifCond .eq 27, 3) := by decide +kernel
theorem dX3_mostAlike_40 : decode cX3_mostAlike 40 = .ok (.aload_n 0, 1) := by decide +kernel
theorem dX3_mostAlike_41 : decode cX3_mostAlike 41 = .ok (.getfield 9, 3) := by decide +kernel
theorem dX3_mostAlike_44 : decode cX3_mostAlike 44 = .ok (.iload_n 3, 1) := by decide +kernel
theorem dX3_mostAlike_45 : decode cX3_mostAlike 45 = .ok (.invokestatic 47, 3) := by decide +kernel
theorem dX3_mostAlike_48 : decode cX3_mostAlike 48 = .ok (.aload_n 0, 1) := by decide +kernel
theorem dX3_mostAlike_49 : decode cX3_mostAlike 49 = .ok (.getfield 9, 3) := by decide +kernel
theorem dX3_mostAlike_52 : decode cX3_mostAlike 52 = .ok (.iload 5, 2) := by decide +kernel
theorem dX3_mostAlike_54 : decode cX3_mostAlike 54 = .ok (.invokestatic 47, 3) := by decide +kernel
theorem dX3_mostAlike_57 : decode cX3_mostAlike 57 = .ok (.if_icmp .ne 7, 3) := by decide +kernel
theorem dX3_mostAlike_60 : decode cX3_mostAlike 60 = .ok (.iconst 1, 1) := by decide +kernel
theorem dX3_mostAlike_61 : decode cX3_mostAlike 61 = .ok (.goto 4, 3) := by decide +kernel
theorem dX3_mostAlike_64 : decode cX3_mostAlike 64 = .ok (.iconst 0, 1) := by decide +kernel
theorem dX3_mostAlike_65 : decode cX3_mostAlike 65 = .ok (.istore 6, 2) := by decide +kernel
theorem dX3_mostAlike_67 : decode cX3_mostAlike 67 = .ok (.iload 4, 2) := by decide +kernel
theorem dX3_mostAlike_69 : decode cX3_mostAlike 69 = .ok (.iload 6, 2) := by decide +kernel
theorem dX3_mostAlike_71 : decode cX3_mostAlike 71 = .ok (.ifCond .eq 7, 3) := by decide +kernel
theorem dX3_mostAlike_74 : decode cX3_mostAlike 74 = .ok (.iconst 1, 1) := by decide +kernel
theorem dX3_mostAlike_75 : decode cX3_mostAlike 75 = .ok (.goto 4, 3) := by decide +kernel
theorem dX3_mostAlike_78 : decode cX3_mostAlike 78 = .ok (.iconst 0, 1) := by decide +kernel
theorem dX3_mostAlike_79 : decode cX3_mostAlike 79 = .ok (.iadd, 1) := by decide +kernel
theorem dX3_mostAlike_80 : decode cX3_mostAlike 80 = .ok (.istore 4, 2) := by decide +kernel
theorem dX3_mostAlike_82 : decode cX3_mostAlike 82 = .ok (.iinc 5 1, 3) := by decide +kernel
theorem dX3_mostAlike_85 : decode cX3_mostAlike 85 = .ok (.goto (-69), 3) := by decide +kernel
theorem dX3_mostAlike_88 : decode cX3_mostAlike 88 = .ok (.iload_n 2, 1) := by decide +kernel
theorem dX3_mostAlike_89 : decode cX3_mostAlike 89 = .ok (.iload 4, 2) := by decide +kernel
theorem dX3_mostAlike_91 : decode cX3_mostAlike 91 = .ok (.invokestatic 51, 3) := by decide +kernel
theorem dX3_mostAlike_94 : decode cX3_mostAlike 94 = .ok (.istore_n 2, 1) := by decide +kernel
theorem dX3_mostAlike_95 : decode cX3_mostAlike 95 = .ok (.iinc 3 1, 3) := by decide +kernel
theorem dX3_mostAlike_98 : decode cX3_mostAlike 98 = .ok (.goto (-94), 3) := by decide +kernel
theorem dX3_mostAlike_101 : decode cX3_mostAlike 101 = .ok (.iload_n 2, 1) := by decide +kernel
theorem dX3_mostAlike_102 : decode cX3_mostAlike 102 = .ok (.ireturn, 1) := by decide +kernel
theorem dX4_letsGo_0 : decode cX4_letsGo 0 = .ok (.iload_n 1, 1) := by decide +kernel
theorem dX4_letsGo_1 : decode cX4_letsGo 1 = .ok (.iconst 1, 1) := by decide +kernel
theorem dX4_letsGo_2 : decode cX4_letsGo 2 = .ok (.isub, 1) := by decide +kernel
theorem dX4_letsGo_3 : decode cX4_letsGo 3 = .ok (.istore_n 3, 1) := by decide +kernel
theorem dX4_letsGo_4 : decode cX4_letsGo 4 = .ok (.iconst 0, 1) := by decide +kernel
theorem dX4_letsGo_5 : decode cX4_letsGo 5 = .ok (.iload_n 3, 1) := by decide +kernel
theorem dX4_letsGo_6 : decode cX4_letsGo 6 = .ok (.iload_n 2, 1) := by decide +kernel
theorem dX4_letsGo_7 : decode cX4_letsGo 7 = .ok (.iconst 4, 1) := by decide +kernel
theorem dX4_letsGo_8 : decode cX4_letsGo 8 = .ok (.invokestatic 9, 3) := by decide +kernel
theorem dX4_letsGo_11 : decode cX4_letsGo 11 = .ok (.isub, 1) := by decide +kernel
theorem dX4_letsGo_12 : decode cX4_letsGo 12 = .ok (.invokestatic 15, 3) := by decide +kernel
theorem dX4_letsGo_15 : decode cX4_letsGo 15 = .ok (.istore 4, 2) := by decide +kernel
theorem dX4_letsGo_17 : decode cX4_letsGo 17 = .ok (.iload_n 3, 1) := by decide +kernel
theorem dX4_letsGo_18 : decode cX4_letsGo 18 = .ok (.iconst 1, 1) := by decide +kernel
theorem dX4_letsGo_19 : decode cX4_letsGo 19 = .ok (.iadd, 1) := by decide +kernel
theorem dX4_letsGo_20 : decode cX4_letsGo 20 = .ok (.istore 5, 2) := by decide +kernel
theorem dX4_letsGo_22 : decode cX4_letsGo 22 = .ok (.iload_n 0, 1) := by decide +kernel
theorem dX4_letsGo_23 : decode cX4_letsGo 23 = .ok (.tableswitch 65 1 5 #[33, 36, 39, 44, 55], 33) := by decide +kernel
theorem dX4_letsGo_56 : decode cX4_letsGo 56 = .ok (.iload 4, 2) := by decide +kernel
theorem dX4_letsGo_58 : decode cX4_letsGo 58 = .ok (.ireturn, 1) := by decide +kernel
theorem dX4_letsGo_59 : decode cX4_letsGo 59 = .ok (.iload 5, 2) := by decide +kernel
theorem dX4_letsGo_61 : decode cX4_letsGo 61 = .ok (.ireturn, 1) := by decide +kernel
theorem dX4_letsGo_62 : decode cX4_letsGo 62 = .ok (.iload 4, 2) := by decide +kernel
theorem dX4_letsGo_64 : decode cX4_letsGo 64 = .ok (.iconst 2, 1) := by decide +kernel
theorem dX4_letsGo_65 : decode cX4_letsGo 65 = .ok (.idiv, 1) := by decide +kernel
theorem dX4_letsGo_66 : decode cX4_letsGo 66 = .ok (.ireturn, 1) := by decide +kernel
theorem dX4_letsGo_67 : decode cX4_letsGo 67 = .ok (.iload_n 1, 1) := by decide +kernel
theorem dX4_letsGo_68 : decode cX4_letsGo 68 = .ok (.iconst 5, 1) := by decide +kernel
theorem dX4_letsGo_69 : decode cX4_letsGo 69 = .ok (.if_icmp .lt 7, 3) := by decide +kernel
theorem dX4_letsGo_72 : decode cX4_letsGo 72 = .ok (.iload_n 3, 1) := by decide +kernel
theorem dX4_letsGo_73 : decode cX4_letsGo 73 = .ok (.goto 4, 3) := by decide +kernel
theorem dX4_letsGo_76 : decode cX4_letsGo 76 = .ok (.iconst 0, 1) := by decide +kernel
theorem dX4_letsGo_77 : decode cX4_letsGo 77 = .ok (.ireturn, 1) := by decide +kernel
theorem dX4_letsGo_78 : decode cX4_letsGo 78 = .ok (.bipush 20, 2) := by decide +kernel
theorem dX4_letsGo_80 : decode cX4_letsGo 80 = .ok (.iconst 2, 1) := by decide +kernel
theorem dX4_letsGo_81 : decode cX4_letsGo 81 = .ok (.iload 5, 2) := by decide +kernel
theorem dX4_letsGo_83 : decode cX4_letsGo 83 = .ok (.imul, 1) := by decide +kernel
theorem dX4_letsGo_84 : decode cX4_letsGo 84 = .ok (.invokestatic 9, 3) := by decide +kernel
theorem dX4_letsGo_87 : decode cX4_letsGo 87 = .ok (.ireturn, 1) := by decide +kernel
theorem dX4_letsGo_88 : decode cX4_letsGo 88 = .ok (.iload_n 3, 1) := by decide +kernel
theorem dX4_letsGo_89 : decode cX4_letsGo 89 = .ok (.ireturn, 1) := by decide +kernel
theorem dX4_pulls_0 : decode cX4_pulls 0 = .ok (.iconst 0, 1) := by decide +kernel
theorem dX4_pulls_1 : decode cX4_pulls 1 = .ok (.iconst 2, 1) := by decide +kernel
theorem dX4_pulls_2 : decode cX4_pulls 2 = .ok (.iload_n 1, 1) := by decide +kernel
theorem dX4_pulls_3 : decode cX4_pulls 3 = .ok (.imul, 1) := by decide +kernel
theorem dX4_pulls_4 : decode cX4_pulls 4 = .ok (.iload_n 2, 1) := by decide +kernel
theorem dX4_pulls_5 : decode cX4_pulls 5 = .ok (.isub, 1) := by decide +kernel
theorem dX4_pulls_6 : decode cX4_pulls 6 = .ok (.invokestatic 15, 3) := by decide +kernel
theorem dX4_pulls_9 : decode cX4_pulls 9 = .ok (.istore 4, 2) := by decide +kernel
theorem dX4_pulls_11 : decode cX4_pulls 11 = .ok (.iload_n 2, 1) := by decide +kernel
theorem dX4_pulls_12 : decode cX4_pulls 12 = .ok (.iconst 2, 1) := by decide +kernel
theorem dX4_pulls_13 : decode cX4_pulls 13 = .ok (.if_icmp .gt 10, 3) := by decide +kernel
theorem dX4_pulls_16 : decode cX4_pulls 16 = .ok (.iconst 2, 1) := by decide +kernel
theorem dX4_pulls_17 : decode cX4_pulls 17 = .ok (.iload 4, 2) := by decide +kernel
theorem dX4_pulls_19 : decode cX4_pulls 19 = .ok (.imul, 1) := by decide +kernel
theorem dX4_pulls_20 : decode cX4_pulls 20 = .ok (.goto 5, 3) := by decide +kernel
theorem dX4_pulls_23 : decode cX4_pulls 23 = .ok (.iload 4, 2) := by decide +kernel
theorem dX4_pulls_25 : decode cX4_pulls 25 = .ok (.istore 5, 2) := by decide +kernel
theorem dX4_pulls_27 : decode cX4_pulls 27 = .ok (.iload 4, 2) := by decide +kernel
theorem dX4_pulls_29 : decode cX4_pulls 29 = .ok (.iconst 1, 1) := by decide +kernel
theorem dX4_pulls_30 : decode cX4_pulls 30 = .ok (.iadd, 1) := by decide +kernel
theorem dX4_pulls_31 : decode cX4_pulls 31 = .ok (.iconst 2, 1) := by decide +kernel
theorem dX4_pulls_32 : decode cX4_pulls 32 = .ok (.idiv, 1) := by decide +kernel
theorem dX4_pulls_33 : decode cX4_pulls 33 = .ok (.istore 6, 2) := by decide +kernel
theorem dX4_pulls_35 : decode cX4_pulls 35 = .ok (.iload_n 0, 1) := by decide +kernel
theorem dX4_pulls_36 : decode cX4_pulls 36 = .ok (.tableswitch 75 1 5 #[36, 39, 42, 55, 59], 36) := by decide +kernel
theorem dX4_pulls_72 : decode cX4_pulls 72 = .ok (.iload 5, 2) := by decide +kernel
theorem dX4_pulls_74 : decode cX4_pulls 74 = .ok (.ireturn, 1) := by decide +kernel
theorem dX4_pulls_75 : decode cX4_pulls 75 = .ok (.iload 6, 2) := by decide +kernel
theorem dX4_pulls_77 : decode cX4_pulls 77 = .ok (.ireturn, 1) := by decide +kernel
theorem dX4_pulls_78 : decode cX4_pulls 78 = .ok (.iload_n 3, 1) := by decide +kernel
theorem dX4_pulls_79 : decode cX4_pulls 79 = .ok (.iconst 2, 1) := by decide +kernel
theorem dX4_pulls_80 : decode cX4_pulls 80 = .ok (.irem, 1) := by decide +kernel
theorem dX4_pulls_81 : decode cX4_pulls 81 = .ok (.ifCond .ne 8, 3) := by decide +kernel
theorem dX4_pulls_84 : decode cX4_pulls 84 = .ok (.iload 6, 2) := by decide +kernel
theorem dX4_pulls_86 : decode cX4_pulls 86 = .ok (.goto 4, 3) := by decide +kernel
theorem dX4_pulls_89 : decode cX4_pulls 89 = .ok (.iconst 0, 1) := by decide +kernel
theorem dX4_pulls_90 : decode cX4_pulls 90 = .ok (.ireturn, 1) := by decide +kernel
theorem dX4_pulls_91 : decode cX4_pulls 91 = .ok (.iload 4, 2) := by decide +kernel
theorem dX4_pulls_93 : decode cX4_pulls 93 = .ok (.ineg, 1) := by decide +kernel
theorem dX4_pulls_94 : decode cX4_pulls 94 = .ok (.ireturn, 1) := by decide +kernel
theorem dX4_pulls_95 : decode cX4_pulls 95 = .ok (.iload 5, 2) := by decide +kernel
theorem dX4_pulls_97 : decode cX4_pulls 97 = .ok (.iconst 1, 1) := by decide +kernel
theorem dX4_pulls_98 : decode cX4_pulls 98 = .ok (.if_icmp .lt 10, 3) := by decide +kernel
theorem dX4_pulls_101 : decode cX4_pulls 101 = .ok (.iload 5, 2) := by decide +kernel
theorem dX4_pulls_103 : decode cX4_pulls 103 = .ok (.iconst 3, 1) := by decide +kernel
theorem dX4_pulls_104 : decode cX4_pulls 104 = .ok (.iadd, 1) := by decide +kernel
theorem dX4_pulls_105 : decode cX4_pulls 105 = .ok (.goto 5, 3) := by decide +kernel
theorem dX4_pulls_108 : decode cX4_pulls 108 = .ok (.iload 5, 2) := by decide +kernel
theorem dX4_pulls_110 : decode cX4_pulls 110 = .ok (.ireturn, 1) := by decide +kernel
theorem dX4_pulls_111 : decode cX4_pulls 111 = .ok (.iload 4, 2) := by decide +kernel
theorem dX4_pulls_113 : decode cX4_pulls 113 = .ok (.ireturn, 1) := by decide +kernel
set_option maxRecDepth 20000 in
theorem ggX5_howMany_X5_rests : GoodIn wsX5_howMany wsX5_rests := goodIn_r _ [4, 5, 6, 3, 7, 8, 9, 10, 11, 12, 13] (by decide +kernel) (by decide +kernel)
set_option maxRecDepth 20000 in
theorem gX5_howMany_X5_rests : GoodIn wsX5_howMany (va_wsS RX5 11 yX5_rests wsX5_rests) := goodIn_app (goodIn_of _ (by decide +kernel)) ggX5_howMany_X5_rests
theorem dX5_howMany_0 : decode cX5_howMany 0 = .ok (.iconst 0, 1) := by decide +kernel
theorem dX5_howMany_1 : decode cX5_howMany 1 = .ok (.istore_n 2, 1) := by decide +kernel
theorem dX5_howMany_2 : decode cX5_howMany 2 = .ok (.iconst 0, 1) := by decide +kernel
theorem dX5_howMany_3 : decode cX5_howMany 3 = .ok (.istore_n 3, 1) := by decide +kernel
theorem dX5_howMany_4 : decode cX5_howMany 4 = .ok (.iload_n 3, 1) := by decide +kernel
theorem dX5_howMany_5 : decode cX5_howMany 5 = .ok (.bipush 9, 2) := by decide +kernel
theorem dX5_howMany_7 : decode cX5_howMany 7 = .ok (.if_icmp .gt 44, 3) := by decide +kernel
theorem dX5_howMany_10 : decode cX5_howMany 10 = .ok (.iconst 0, 1) := by decide +kernel
theorem dX5_howMany_11 : decode cX5_howMany 11 = .ok (.istore 4, 2) := by decide +kernel
theorem dX5_howMany_13 : decode cX5_howMany 13 = .ok (.iload 4, 2) := by decide +kernel
theorem dX5_howMany_15 : decode cX5_howMany 15 = .ok (.bipush 9, 2) := by decide +kernel
theorem dX5_howMany_17 : decode cX5_howMany 17 = .ok (.if_icmp .gt 28, 3) := by decide +kernel
theorem dX5_howMany_20 : decode cX5_howMany 20 = .ok (.iload_n 2, 1) := by decide +kernel
theorem dX5_howMany_21 : decode cX5_howMany 21 = .ok (.iload_n 3, 1) := by decide +kernel
theorem dX5_howMany_22 : decode cX5_howMany 22 = .ok (.iload 4, 2) := by decide +kernel
theorem dX5_howMany_24 : decode cX5_howMany 24 = .ok (.iload_n 0, 1) := by decide +kernel
theorem dX5_howMany_25 : decode cX5_howMany 25 = .ok (.iload_n 1, 1) := by decide +kernel
theorem dX5_howMany_26 : decode cX5_howMany 26 = .ok (.invokestatic 11, 3) := by decide +kernel
theorem dX5_howMany_29 : decode cX5_howMany 29 = .ok (.ifCond .eq 7, 3) := by decide +kernel
theorem dX5_howMany_32 : decode cX5_howMany 32 = .ok (.iconst 1, 1) := by decide +kernel
theorem dX5_howMany_33 : decode cX5_howMany 33 = .ok (.goto 4, 3) := by decide +kernel
theorem dX5_howMany_36 : decode cX5_howMany 36 = .ok (.iconst 0, 1) := by decide +kernel
theorem dX5_howMany_37 : decode cX5_howMany 37 = .ok (.iadd, 1) := by decide +kernel
theorem dX5_howMany_38 : decode cX5_howMany 38 = .ok (.istore_n 2, 1) := by decide +kernel
theorem dX5_howMany_39 : decode cX5_howMany 39 = .ok (.iinc 4 1, 3) := by decide +kernel
theorem dX5_howMany_42 : decode cX5_howMany 42 = .ok (.goto (-29), 3) := by decide +kernel
theorem dX5_howMany_45 : decode cX5_howMany 45 = .ok (.iinc 3 1, 3) := by decide +kernel
theorem dX5_howMany_48 : decode cX5_howMany 48 = .ok (.goto (-44), 3) := by decide +kernel
theorem dX5_howMany_51 : decode cX5_howMany 51 = .ok (.iload_n 2, 1) := by decide +kernel
theorem dX5_howMany_52 : decode cX5_howMany 52 = .ok (.ireturn, 1) := by decide +kernel
set_option maxRecDepth 20000 in
theorem ggX5_pair_X5_rests : GoodIn wsX5_pair wsX5_rests := goodIn_r _ [4, 5, 6, 3, 7, 8, 9, 10, 11, 12, 13] (by decide +kernel) (by decide +kernel)
set_option maxRecDepth 20000 in
theorem gX5_pair_X5_rests : GoodIn wsX5_pair (va_wsS RX5 11 yX5_rests wsX5_rests) := goodIn_app (goodIn_of _ (by decide +kernel)) ggX5_pair_X5_rests
theorem dX5_pair_0 : decode cX5_pair 0 = .ok (.iconst 0, 1) := by decide +kernel
theorem dX5_pair_1 : decode cX5_pair 1 = .ok (.istore_n 3, 1) := by decide +kernel
theorem dX5_pair_2 : decode cX5_pair 2 = .ok (.iconst 0, 1) := by decide +kernel
theorem dX5_pair_3 : decode cX5_pair 3 = .ok (.istore 4, 2) := by decide +kernel
theorem dX5_pair_5 : decode cX5_pair 5 = .ok (.iload 4, 2) := by decide +kernel
theorem dX5_pair_7 : decode cX5_pair 7 = .ok (.bipush 9, 2) := by decide +kernel
theorem dX5_pair_9 : decode cX5_pair 9 = .ok (.if_icmp .gt 54, 3) := by decide +kernel
theorem dX5_pair_12 : decode cX5_pair 12 = .ok (.iconst 0, 1) := by decide +kernel
theorem dX5_pair_13 : decode cX5_pair 13 = .ok (.istore 5, 2) := by decide +kernel
theorem dX5_pair_15 : decode cX5_pair 15 = .ok (.iload 5, 2) := by decide +kernel
theorem dX5_pair_17 : decode cX5_pair 17 = .ok (.bipush 9, 2) := by decide +kernel
theorem dX5_pair_19 : decode cX5_pair 19 = .ok (.if_icmp .gt 38, 3) := by decide +kernel
theorem dX5_pair_22 : decode cX5_pair 22 = .ok (.iload 4, 2) := by decide +kernel
theorem dX5_pair_24 : decode cX5_pair 24 = .ok (.iload 5, 2) := by decide +kernel
theorem dX5_pair_26 : decode cX5_pair 26 = .ok (.iload_n 0, 1) := by decide +kernel
theorem dX5_pair_27 : decode cX5_pair 27 = .ok (.iload_n 1, 1) := by decide +kernel
theorem dX5_pair_28 : decode cX5_pair 28 = .ok (.invokestatic 11, 3) := by decide +kernel
theorem dX5_pair_31 : decode cX5_pair 31 = .ok (.ifCond .eq 20, 3) := by decide +kernel
theorem dX5_pair_34 : decode cX5_pair 34 = .ok (.iload_n 3, 1) := by decide +kernel
theorem dX5_pair_35 : decode cX5_pair 35 = .ok (.iload_n 2, 1) := by decide +kernel
theorem dX5_pair_36 : decode cX5_pair 36 = .ok (.if_icmp .ne 12, 3) := by decide +kernel
theorem dX5_pair_39 : decode cX5_pair 39 = .ok (.bipush 10, 2) := by decide +kernel
theorem dX5_pair_41 : decode cX5_pair 41 = .ok (.iload 4, 2) := by decide +kernel
theorem dX5_pair_43 : decode cX5_pair 43 = .ok (.imul, 1) := by decide +kernel
theorem dX5_pair_44 : decode cX5_pair 44 = .ok (.iload 5, 2) := by decide +kernel
theorem dX5_pair_46 : decode cX5_pair 46 = .ok (.iadd, 1) := by decide +kernel
theorem dX5_pair_47 : decode cX5_pair 47 = .ok (.ireturn, 1) := by decide +kernel
theorem dX5_pair_48 : decode cX5_pair 48 = .ok (.iinc 3 1, 3) := by decide +kernel
theorem dX5_pair_51 : decode cX5_pair 51 = .ok (.iinc 5 1, 3) := by decide +kernel
theorem dX5_pair_54 : decode cX5_pair 54 = .ok (.goto (-39), 3) := by decide +kernel
theorem dX5_pair_57 : decode cX5_pair 57 = .ok (.iinc 4 1, 3) := by decide +kernel
theorem dX5_pair_60 : decode cX5_pair 60 = .ok (.goto (-55), 3) := by decide +kernel
theorem dX5_pair_63 : decode cX5_pair 63 = .ok (.bipush (-5), 2) := by decide +kernel
theorem dX5_pair_65 : decode cX5_pair 65 = .ok (.ireturn, 1) := by decide +kernel
set_option maxRecDepth 20000 in
theorem ggX5_rests_X5_firstGets : GoodIn wsX5_rests wsX5_firstGets := goodIn_r _ [4, 5, 6, 3, 7] (by decide +kernel) (by decide +kernel)
set_option maxRecDepth 20000 in
theorem gX5_rests_X5_firstGets : GoodIn wsX5_rests (va_wsS RX5 15 yX5_firstGets wsX5_firstGets) := goodIn_app (goodIn_of _ (by decide +kernel)) ggX5_rests_X5_firstGets
set_option maxRecDepth 20000 in
theorem ggX5_rests_X5_secondGets : GoodIn wsX5_rests wsX5_secondGets := goodIn_r _ [10, 5, 6, 3, 7] (by decide +kernel) (by decide +kernel)
set_option maxRecDepth 20000 in
theorem gX5_rests_X5_secondGets : GoodIn wsX5_rests (va_wsS RX5 19 yX5_secondGets wsX5_secondGets) := goodIn_app (goodIn_of _ (by decide +kernel)) ggX5_rests_X5_secondGets
theorem dX5_rests_0 : decode cX5_rests 0 = .ok (.iconst 0, 1) := by decide +kernel
theorem dX5_rests_1 : decode cX5_rests 1 = .ok (.istore 4, 2) := by decide +kernel
theorem dX5_rests_3 : decode cX5_rests 3 = .ok (.iload 4, 2) := by decide +kernel
theorem dX5_rests_5 : decode cX5_rests 5 = .ok (.bipush 9, 2) := by decide +kernel
theorem dX5_rests_7 : decode cX5_rests 7 = .ok (.if_icmp .gt 67, 3) := by decide +kernel
theorem dX5_rests_10 : decode cX5_rests 10 = .ok (.iload 4, 2) := by decide +kernel
theorem dX5_rests_12 : decode cX5_rests 12 = .ok (.iload_n 1, 1) := by decide +kernel
theorem dX5_rests_13 : decode cX5_rests 13 = .ok (.iload_n 2, 1) := by decide +kernel
theorem dX5_rests_14 : decode cX5_rests 14 = .ok (.invokestatic 15, 3) := by decide +kernel
theorem dX5_rests_17 : decode cX5_rests 17 = .ok (.iload_n 0, 1) := by decide +kernel
theorem dX5_rests_18 : decode cX5_rests 18 = .ok (.iload_n 1, 1) := by decide +kernel
theorem dX5_rests_19 : decode cX5_rests 19 = .ok (.iload_n 2, 1) := by decide +kernel
theorem dX5_rests_20 : decode cX5_rests 20 = .ok (.invokestatic 15, 3) := by decide +kernel
theorem dX5_rests_23 : decode cX5_rests 23 = .ok (.if_icmp .le 7, 3) := by decide +kernel
theorem dX5_rests_26 : decode cX5_rests 26 = .ok (.iconst 1, 1) := by decide +kernel
theorem dX5_rests_27 : decode cX5_rests 27 = .ok (.goto 4, 3) := by decide +kernel
theorem dX5_rests_30 : decode cX5_rests 30 = .ok (.iconst 0, 1) := by decide +kernel
theorem dX5_rests_31 : decode cX5_rests 31 = .ok (.istore 5, 2) := by decide +kernel
theorem dX5_rests_33 : decode cX5_rests 33 = .ok (.iload_n 0, 1) := by decide +kernel
theorem dX5_rests_34 : decode cX5_rests 34 = .ok (.iload 4, 2) := by decide +kernel
theorem dX5_rests_36 : decode cX5_rests 36 = .ok (.iload_n 3, 1) := by decide +kernel
theorem dX5_rests_37 : decode cX5_rests 37 = .ok (.invokestatic 19, 3) := by decide +kernel
theorem dX5_rests_40 : decode cX5_rests 40 = .ok (.iload_n 0, 1) := by decide +kernel
theorem dX5_rests_41 : decode cX5_rests 41 = .ok (.iload_n 1, 1) := by decide +kernel
theorem dX5_rests_42 : decode cX5_rests 42 = .ok (.iload_n 3, 1) := by decide +kernel
theorem dX5_rests_43 : decode cX5_rests 43 = .ok (.invokestatic 19, 3) := by decide +kernel
theorem dX5_rests_46 : decode cX5_rests 46 = .ok (.if_icmp .le 7, 3) := by decide +kernel
theorem dX5_rests_49 : decode cX5_rests 49 = .ok (.iconst 1, 1) := by decide +kernel
theorem dX5_rests_50 : decode cX5_rests 50 = .ok (.goto 4, 3) := by decide +kernel
theorem dX5_rests_53 : decode cX5_rests 53 = .ok (.iconst 0, 1) := by decide +kernel
theorem dX5_rests_54 : decode cX5_rests 54 = .ok (.istore 6, 2) := by decide +kernel
theorem dX5_rests_56 : decode cX5_rests 56 = .ok (.iload 5, 2) := by decide +kernel
theorem dX5_rests_58 : decode cX5_rests 58 = .ok (.ifCond .ne 8, 3) := by decide +kernel
theorem dX5_rests_61 : decode cX5_rests 61 = .ok (.iload 6, 2) := by decide +kernel
theorem dX5_rests_63 : decode cX5_rests 63 = .ok (.ifCond .eq 5, 3) := by decide +kernel
theorem dX5_rests_66 : decode cX5_rests 66 = .ok (.iconst 0, 1) := by decide +kernel
theorem dX5_rests_67 : decode cX5_rests 67 = .ok (.ireturn, 1) := by decide +kernel
theorem dX5_rests_68 : decode cX5_rests 68 = .ok (.iinc 4 1, 3) := by decide +kernel
theorem dX5_rests_71 : decode cX5_rests 71 = .ok (.goto (-68), 3) := by decide +kernel
theorem dX5_rests_74 : decode cX5_rests 74 = .ok (.iconst 1, 1) := by decide +kernel
theorem dX5_rests_75 : decode cX5_rests 75 = .ok (.ireturn, 1) := by decide +kernel
set_option maxRecDepth 20000 in
theorem ggX5_firstGets_X5_thirdOf : GoodIn wsX5_firstGets wsX5_thirdOf := goodIn_r _ [4] (by decide +kernel) (by decide +kernel)
set_option maxRecDepth 20000 in
theorem gX5_firstGets_X5_thirdOf : GoodIn wsX5_firstGets (va_wsS RX5 22 yX5_thirdOf wsX5_thirdOf) := goodIn_app (goodIn_of _ (by decide +kernel)) ggX5_firstGets_X5_thirdOf
theorem dX5_firstGets_0 : decode cX5_firstGets 0 = .ok (.iload_n 0, 1) := by decide +kernel
theorem dX5_firstGets_1 : decode cX5_firstGets 1 = .ok (.iload_n 1, 1) := by decide +kernel
theorem dX5_firstGets_2 : decode cX5_firstGets 2 = .ok (.if_icmp .lt 15, 3) := by decide +kernel
theorem dX5_firstGets_5 : decode cX5_firstGets 5 = .ok (.iload_n 0, 1) := by decide +kernel
theorem dX5_firstGets_6 : decode cX5_firstGets 6 = .ok (.iload_n 2, 1) := by decide +kernel
theorem dX5_firstGets_7 : decode cX5_firstGets 7 = .ok (.invokestatic 22, 3) := by decide +kernel
theorem dX5_firstGets_10 : decode cX5_firstGets 10 = .ok (.if_icmp .lt 7, 3) := by decide +kernel
theorem dX5_firstGets_13 : decode cX5_firstGets 13 = .ok (.iload_n 2, 1) := by decide +kernel
theorem dX5_firstGets_14 : decode cX5_firstGets 14 = .ok (.goto 4, 3) := by decide +kernel
theorem dX5_firstGets_17 : decode cX5_firstGets 17 = .ok (.iconst 0, 1) := by decide +kernel
theorem dX5_firstGets_18 : decode cX5_firstGets 18 = .ok (.iload_n 0, 1) := by decide +kernel
theorem dX5_firstGets_19 : decode cX5_firstGets 19 = .ok (.isub, 1) := by decide +kernel
theorem dX5_firstGets_20 : decode cX5_firstGets 20 = .ok (.ireturn, 1) := by decide +kernel
set_option maxRecDepth 20000 in
theorem ggX5_secondGets_X5_thirdOf : GoodIn wsX5_secondGets wsX5_thirdOf := goodIn_r _ [4] (by decide +kernel) (by decide +kernel)
set_option maxRecDepth 20000 in
theorem gX5_secondGets_X5_thirdOf : GoodIn wsX5_secondGets (va_wsS RX5 22 yX5_thirdOf wsX5_thirdOf) := goodIn_app (goodIn_of _ (by decide +kernel)) ggX5_secondGets_X5_thirdOf
theorem dX5_secondGets_0 : decode cX5_secondGets 0 = .ok (.iload_n 1, 1) := by decide +kernel
theorem dX5_secondGets_1 : decode cX5_secondGets 1 = .ok (.iload_n 0, 1) := by decide +kernel
theorem dX5_secondGets_2 : decode cX5_secondGets 2 = .ok (.if_icmp .le 15, 3) := by decide +kernel
theorem dX5_secondGets_5 : decode cX5_secondGets 5 = .ok (.iload_n 1, 1) := by decide +kernel
theorem dX5_secondGets_6 : decode cX5_secondGets 6 = .ok (.iload_n 2, 1) := by decide +kernel
theorem dX5_secondGets_7 : decode cX5_secondGets 7 = .ok (.invokestatic 22, 3) := by decide +kernel
theorem dX5_secondGets_10 : decode cX5_secondGets 10 = .ok (.if_icmp .lt 7, 3) := by decide +kernel
theorem dX5_secondGets_13 : decode cX5_secondGets 13 = .ok (.iload_n 2, 1) := by decide +kernel
theorem dX5_secondGets_14 : decode cX5_secondGets 14 = .ok (.goto 4, 3) := by decide +kernel
theorem dX5_secondGets_17 : decode cX5_secondGets 17 = .ok (.iconst 0, 1) := by decide +kernel
theorem dX5_secondGets_18 : decode cX5_secondGets 18 = .ok (.iload_n 1, 1) := by decide +kernel
theorem dX5_secondGets_19 : decode cX5_secondGets 19 = .ok (.isub, 1) := by decide +kernel
theorem dX5_secondGets_20 : decode cX5_secondGets 20 = .ok (.ireturn, 1) := by decide +kernel
theorem dX5_thirdOf_0 : decode cX5_thirdOf 0 = .ok (.iload_n 0, 1) := by decide +kernel
theorem dX5_thirdOf_1 : decode cX5_thirdOf 1 = .ok (.iconst 2, 1) := by decide +kernel
theorem dX5_thirdOf_2 : decode cX5_thirdOf 2 = .ok (.iadd, 1) := by decide +kernel
theorem dX5_thirdOf_3 : decode cX5_thirdOf 3 = .ok (.iconst 3, 1) := by decide +kernel
theorem dX5_thirdOf_4 : decode cX5_thirdOf 4 = .ok (.idiv, 1) := by decide +kernel
theorem dX5_thirdOf_5 : decode cX5_thirdOf 5 = .ok (.ireturn, 1) := by decide +kernel
set_option maxRecDepth 20000 in
theorem ggX6_init_X7_init : GoodIn wsX6_init wsX7_init := goodIn_r _ [15, 16, 2, 3, 17, 18, 19, 20, 21, 22, 23, 24, 25, 26, 27] (by decide +kernel) (by decide +kernel)
set_option maxRecDepth 20000 in
theorem gX6_init_X7_init : GoodIn wsX6_init (wsX7_init) := ggX6_init_X7_init
theorem dX6_init_0 : decode cX6_init 0 = .ok (.aload_n 0, 1) := by decide +kernel
theorem dX6_init_1 : decode cX6_init 1 = .ok (.invokespecial 3, 3) := by decide +kernel
theorem dX6_init_4 : decode cX6_init 4 = .ok (.aload_n 0, 1) := by decide +kernel
theorem dX6_init_5 : decode cX6_init 5 = .ok (.new 9, 3) := by decide +kernel
theorem dX6_init_8 : decode cX6_init 8 = .ok (.dup, 1) := by decide +kernel
theorem dX6_init_9 : decode cX6_init 9 = .ok (.bipush 7, 2) := by decide +kernel
theorem dX6_init_11 : decode cX6_init 11 = .ok (.iconst 5, 1) := by decide +kernel
theorem dX6_init_12 : decode cX6_init 12 = .ok (.invokespecial 11, 3) := by decide +kernel
theorem dX6_init_15 : decode cX6_init 15 = .ok (.putfield 14, 3) := by decide +kernel
theorem dX6_init_18 : decode cX6_init 18 = .ok (.aload_n 0, 1) := by decide +kernel
theorem dX6_init_19 : decode cX6_init 19 = .ok (.new 9, 3) := by decide +kernel
theorem dX6_init_22 : decode cX6_init 22 = .ok (.dup, 1) := by decide +kernel
theorem dX6_init_23 : decode cX6_init 23 = .ok (.iconst 3, 1) := by decide +kernel
theorem dX6_init_24 : decode cX6_init 24 = .ok (.iconst 3, 1) := by decide +kernel
theorem dX6_init_25 : decode cX6_init 25 = .ok (.invokespecial 11, 3) := by decide +kernel
theorem dX6_init_28 : decode cX6_init 28 = .ok (.putfield 20, 3) := by decide +kernel
theorem dX6_init_31 : decode cX6_init 31 = .ok (.aload_n 0, 1) := by decide +kernel
theorem dX6_init_32 : decode cX6_init 32 = .ok (.new 9, 3) := by decide +kernel
theorem dX6_init_35 : decode cX6_init 35 = .ok (.dup, 1) := by decide +kernel
theorem dX6_init_36 : decode cX6_init 36 = .ok (.iconst 5, 1) := by decide +kernel
theorem dX6_init_37 : decode cX6_init 37 = .ok (.iconst 4, 1) := by decide +kernel
theorem dX6_init_38 : decode cX6_init 38 = .ok (.invokespecial 11, 3) := by decide +kernel
theorem dX6_init_41 : decode cX6_init 41 = .ok (.putfield 23, 3) := by decide +kernel
theorem dX6_init_44 : decode cX6_init 44 = .ok (.aload_n 0, 1) := by decide +kernel
theorem dX6_init_45 : decode cX6_init 45 = .ok (.new 9, 3) := by decide +kernel
theorem dX6_init_48 : decode cX6_init 48 = .ok (.dup, 1) := by decide +kernel
theorem dX6_init_49 : decode cX6_init 49 = .ok (.bipush 6, 2) := by decide +kernel
theorem dX6_init_51 : decode cX6_init 51 = .ok (.iconst 4, 1) := by decide +kernel
theorem dX6_init_52 : decode cX6_init 52 = .ok (.invokespecial 11, 3) := by decide +kernel
theorem dX6_init_55 : decode cX6_init 55 = .ok (.putfield 26, 3) := by decide +kernel
theorem dX6_init_58 : decode cX6_init 58 = .ok (.aload_n 0, 1) := by decide +kernel
theorem dX6_init_59 : decode cX6_init 59 = .ok (.new 9, 3) := by decide +kernel
theorem dX6_init_62 : decode cX6_init 62 = .ok (.dup, 1) := by decide +kernel
theorem dX6_init_63 : decode cX6_init 63 = .ok (.bipush 6, 2) := by decide +kernel
theorem dX6_init_65 : decode cX6_init 65 = .ok (.iconst 5, 1) := by decide +kernel
theorem dX6_init_66 : decode cX6_init 66 = .ok (.invokespecial 11, 3) := by decide +kernel
theorem dX6_init_69 : decode cX6_init 69 = .ok (.putfield 29, 3) := by decide +kernel
theorem dX6_init_72 : decode cX6_init 72 = .ok (.aload_n 0, 1) := by decide +kernel
theorem dX6_init_73 : decode cX6_init 73 = .ok (.new 9, 3) := by decide +kernel
theorem dX6_init_76 : decode cX6_init 76 = .ok (.dup, 1) := by decide +kernel
theorem dX6_init_77 : decode cX6_init 77 = .ok (.bipush 8, 2) := by decide +kernel
theorem dX6_init_79 : decode cX6_init 79 = .ok (.bipush 22, 2) := by decide +kernel
theorem dX6_init_81 : decode cX6_init 81 = .ok (.invokespecial 11, 3) := by decide +kernel
theorem dX6_init_84 : decode cX6_init 84 = .ok (.putfield 32, 3) := by decide +kernel
theorem dX6_init_87 : decode cX6_init 87 = .ok (.return_, 1) := by decide +kernel
set_option maxRecDepth 20000 in
theorem ggX6_empty_X7_empty : GoodIn wsX6_empty wsX7_empty := goodIn_r _ [12, 13, 21, 22, 23, 24] (by decide +kernel) (by decide +kernel)
set_option maxRecDepth 20000 in
theorem gX6_empty_X7_empty : GoodIn wsX6_empty (wsV RX6 35 RX7 yX7_empty wsX7_empty) := goodIn_app (goodIn_of _ (by decide +kernel)) ggX6_empty_X7_empty
theorem dX6_empty_0 : decode cX6_empty 0 = .ok (.aload_n 0, 1) := by decide +kernel
theorem dX6_empty_1 : decode cX6_empty 1 = .ok (.getfield 14, 3) := by decide +kernel
theorem dX6_empty_4 : decode cX6_empty 4 = .ok (.invokevirtual 35, 3) := by decide +kernel
theorem dX6_empty_7 : decode cX6_empty 7 = .ok (.aload_n 0, 1) := by decide +kernel
theorem dX6_empty_8 : decode cX6_empty 8 = .ok (.getfield 20, 3) := by decide +kernel
theorem dX6_empty_11 : decode cX6_empty 11 = .ok (.invokevirtual 35, 3) := by decide +kernel
theorem dX6_empty_14 : decode cX6_empty 14 = .ok (.aload_n 0, 1) := by decide +kernel
theorem dX6_empty_15 : decode cX6_empty 15 = .ok (.getfield 23, 3) := by decide +kernel
theorem dX6_empty_18 : decode cX6_empty 18 = .ok (.invokevirtual 35, 3) := by decide +kernel
theorem dX6_empty_21 : decode cX6_empty 21 = .ok (.aload_n 0, 1) := by decide +kernel
theorem dX6_empty_22 : decode cX6_empty 22 = .ok (.getfield 26, 3) := by decide +kernel
theorem dX6_empty_25 : decode cX6_empty 25 = .ok (.invokevirtual 35, 3) := by decide +kernel
theorem dX6_empty_28 : decode cX6_empty 28 = .ok (.aload_n 0, 1) := by decide +kernel
theorem dX6_empty_29 : decode cX6_empty 29 = .ok (.getfield 29, 3) := by decide +kernel
theorem dX6_empty_32 : decode cX6_empty 32 = .ok (.invokevirtual 35, 3) := by decide +kernel
theorem dX6_empty_35 : decode cX6_empty 35 = .ok (.aload_n 0, 1) := by decide +kernel
theorem dX6_empty_36 : decode cX6_empty 36 = .ok (.getfield 32, 3) := by decide +kernel
theorem dX6_empty_39 : decode cX6_empty 39 = .ok (.invokevirtual 35, 3) := by decide +kernel
theorem dX6_empty_42 : decode cX6_empty 42 = .ok (.aload_n 0, 1) := by decide +kernel
theorem dX6_empty_43 : decode cX6_empty 43 = .ok (.iconst 0, 1) := by decide +kernel
theorem dX6_empty_44 : decode cX6_empty 44 = .ok (.putfield 38, 3) := by decide +kernel
theorem dX6_empty_47 : decode cX6_empty 47 = .ok (.return_, 1) := by decide +kernel
set_option maxRecDepth 20000 in
theorem ggX6_copyFrom_X7_copyFrom : GoodIn wsX6_copyFrom wsX7_copyFrom := goodIn_r _ [12, 13, 14, 15, 16, 17, 18, 19, 20, 21, 22, 23, 24, 25, 33, 34, 35, 36] (by decide +kernel) (by decide +kernel)
set_option maxRecDepth 20000 in
theorem gX6_copyFrom_X7_copyFrom : GoodIn wsX6_copyFrom (wsV RX6 42 RX7 yX7_copyFrom wsX7_copyFrom) := goodIn_app (goodIn_of _ (by decide +kernel)) ggX6_copyFrom_X7_copyFrom
theorem dX6_copyFrom_0 : decode cX6_copyFrom 0 = .ok (.aload_n 0, 1) := by decide +kernel
theorem dX6_copyFrom_1 : decode cX6_copyFrom 1 = .ok (.getfield 14, 3) := by decide +kernel
theorem dX6_copyFrom_4 : decode cX6_copyFrom 4 = .ok (.aload_n 1, 1) := by decide +kernel
theorem dX6_copyFrom_5 : decode cX6_copyFrom 5 = .ok (.getfield 14, 3) := by decide +kernel
theorem dX6_copyFrom_8 : decode cX6_copyFrom 8 = .ok (.invokevirtual 42, 3) := by decide +kernel
theorem dX6_copyFrom_11 : decode cX6_copyFrom 11 = .ok (.aload_n 0, 1) := by decide +kernel
theorem dX6_copyFrom_12 : decode cX6_copyFrom 12 = .ok (.getfield 20, 3) := by decide +kernel
theorem dX6_copyFrom_15 : decode cX6_copyFrom 15 = .ok (.aload_n 1, 1) := by decide +kernel
theorem dX6_copyFrom_16 : decode cX6_copyFrom 16 = .ok (.getfield 20, 3) := by decide +kernel
theorem dX6_copyFrom_19 : decode cX6_copyFrom 19 = .ok (.invokevirtual 42, 3) := by decide +kernel
theorem dX6_copyFrom_22 : decode cX6_copyFrom 22 = .ok (.aload_n 0, 1) := by decide +kernel
theorem dX6_copyFrom_23 : decode cX6_copyFrom 23 = .ok (.getfield 23, 3) := by decide +kernel
theorem dX6_copyFrom_26 : decode cX6_copyFrom 26 = .ok (.aload_n 1, 1) := by decide +kernel
theorem dX6_copyFrom_27 : decode cX6_copyFrom 27 = .ok (.getfield 23, 3) := by decide +kernel
theorem dX6_copyFrom_30 : decode cX6_copyFrom 30 = .ok (.invokevirtual 42, 3) := by decide +kernel
theorem dX6_copyFrom_33 : decode cX6_copyFrom 33 = .ok (.aload_n 0, 1) := by decide +kernel
theorem dX6_copyFrom_34 : decode cX6_copyFrom 34 = .ok (.getfield 26, 3) := by decide +kernel
theorem dX6_copyFrom_37 : decode cX6_copyFrom 37 = .ok (.aload_n 1, 1) := by decide +kernel
theorem dX6_copyFrom_38 : decode cX6_copyFrom 38 = .ok (.getfield 26, 3) := by decide +kernel
theorem dX6_copyFrom_41 : decode cX6_copyFrom 41 = .ok (.invokevirtual 42, 3) := by decide +kernel
theorem dX6_copyFrom_44 : decode cX6_copyFrom 44 = .ok (.aload_n 0, 1) := by decide +kernel
theorem dX6_copyFrom_45 : decode cX6_copyFrom 45 = .ok (.getfield 29, 3) := by decide +kernel
theorem dX6_copyFrom_48 : decode cX6_copyFrom 48 = .ok (.aload_n 1, 1) := by decide +kernel
theorem dX6_copyFrom_49 : decode cX6_copyFrom 49 = .ok (.getfield 29, 3) := by decide +kernel
theorem dX6_copyFrom_52 : decode cX6_copyFrom 52 = .ok (.invokevirtual 42, 3) := by decide +kernel
theorem dX6_copyFrom_55 : decode cX6_copyFrom 55 = .ok (.aload_n 0, 1) := by decide +kernel
theorem dX6_copyFrom_56 : decode cX6_copyFrom 56 = .ok (.getfield 32, 3) := by decide +kernel
theorem dX6_copyFrom_59 : decode cX6_copyFrom 59 = .ok (.aload_n 1, 1) := by decide +kernel
theorem dX6_copyFrom_60 : decode cX6_copyFrom 60 = .ok (.getfield 32, 3) := by decide +kernel
theorem dX6_copyFrom_63 : decode cX6_copyFrom 63 = .ok (.invokevirtual 42, 3) := by decide +kernel
theorem dX6_copyFrom_66 : decode cX6_copyFrom 66 = .ok (.aload_n 0, 1) := by decide +kernel
theorem dX6_copyFrom_67 : decode cX6_copyFrom 67 = .ok (.aload_n 1, 1) := by decide +kernel
theorem dX6_copyFrom_68 : decode cX6_copyFrom 68 = .ok (.getfield 38, 3) := by decide +kernel
theorem dX6_copyFrom_71 : decode cX6_copyFrom 71 = .ok (.putfield 38, 3) := by decide +kernel
theorem dX6_copyFrom_74 : decode cX6_copyFrom 74 = .ok (.return_, 1) := by decide +kernel
set_option maxRecDepth 20000 in
theorem ggX6_addClerk_X7_empty : GoodIn wsX6_addClerk wsX7_empty := goodIn_r _ [7, 8, 31, 32, 33, 34] (by decide +kernel) (by decide +kernel)
set_option maxRecDepth 20000 in
theorem gX6_addClerk_X7_empty : GoodIn wsX6_addClerk (wsV RX6 35 RX7 yX7_empty wsX7_empty) := goodIn_app (goodIn_of _ (by decide +kernel)) ggX6_addClerk_X7_empty
set_option maxRecDepth 20000 in
theorem ggX6_addClerk_X7_add : GoodIn wsX6_addClerk wsX7_add := goodIn_r _ [12, 8, 13, 14, 15, 6, 16, 17, 18, 19, 20, 21, 22, 23, 31, 32, 33, 34] (by decide +kernel) (by decide +kernel)
set_option maxRecDepth 20000 in
theorem gX6_addClerk_X7_add : GoodIn wsX6_addClerk (wsV RX6 46 RX7 yX7_add wsX7_add) := goodIn_app (goodIn_of _ (by decide +kernel)) ggX6_addClerk_X7_add
theorem dX6_addClerk_0 : decode cX6_addClerk 0 = .ok (.aload_n 0, 1) := by decide +kernel
theorem dX6_addClerk_1 : decode cX6_addClerk 1 = .ok (.getfield 32, 3) := by decide +kernel
theorem dX6_addClerk_4 : decode cX6_addClerk 4 = .ok (.invokevirtual 35, 3) := by decide +kernel
theorem dX6_addClerk_7 : decode cX6_addClerk 7 = .ok (.aload_n 0, 1) := by decide +kernel
theorem dX6_addClerk_8 : decode cX6_addClerk 8 = .ok (.getfield 14, 3) := by decide +kernel
theorem dX6_addClerk_11 : decode cX6_addClerk 11 = .ok (.iload_n 1, 1) := by decide +kernel
theorem dX6_addClerk_12 : decode cX6_addClerk 12 = .ok (.iload_n 2, 1) := by decide +kernel
theorem dX6_addClerk_13 : decode cX6_addClerk 13 = .ok (.iload_n 3, 1) := by decide +kernel
theorem dX6_addClerk_14 : decode cX6_addClerk 14 = .ok (.iconst 0, 1) := by decide +kernel
theorem dX6_addClerk_15 : decode cX6_addClerk 15 = .ok (.iconst (-1), 1) := by decide +kernel
theorem dX6_addClerk_16 : decode cX6_addClerk 16 = .ok (.invokevirtual 46, 3) := by decide +kernel
theorem dX6_addClerk_19 : decode cX6_addClerk 19 = .ok (.ireturn, 1) := by decide +kernel
set_option maxRecDepth 20000 in
theorem ggX6_addMagnet_X7_empty : GoodIn wsX6_addMagnet wsX7_empty := goodIn_r _ [7, 8, 31, 32, 33, 34] (by decide +kernel) (by decide +kernel)
set_option maxRecDepth 20000 in
theorem gX6_addMagnet_X7_empty : GoodIn wsX6_addMagnet (wsV RX6 35 RX7 yX7_empty wsX7_empty) := goodIn_app (goodIn_of _ (by decide +kernel)) ggX6_addMagnet_X7_empty
set_option maxRecDepth 20000 in
theorem ggX6_addMagnet_X7_add : GoodIn wsX6_addMagnet wsX7_add := goodIn_r _ [12, 8, 13, 14, 15, 6, 16, 17, 18, 19, 20, 21, 22, 23, 31, 32, 33, 34] (by decide +kernel) (by decide +kernel)
set_option maxRecDepth 20000 in
theorem gX6_addMagnet_X7_add : GoodIn wsX6_addMagnet (wsV RX6 46 RX7 yX7_add wsX7_add) := goodIn_app (goodIn_of _ (by decide +kernel)) ggX6_addMagnet_X7_add
theorem dX6_addMagnet_0 : decode cX6_addMagnet 0 = .ok (.aload_n 0, 1) := by decide +kernel
theorem dX6_addMagnet_1 : decode cX6_addMagnet 1 = .ok (.getfield 32, 3) := by decide +kernel
theorem dX6_addMagnet_4 : decode cX6_addMagnet 4 = .ok (.invokevirtual 35, 3) := by decide +kernel
theorem dX6_addMagnet_7 : decode cX6_addMagnet 7 = .ok (.aload_n 0, 1) := by decide +kernel
theorem dX6_addMagnet_8 : decode cX6_addMagnet 8 = .ok (.getfield 20, 3) := by decide +kernel
theorem dX6_addMagnet_11 : decode cX6_addMagnet 11 = .ok (.iload_n 1, 1) := by decide +kernel
theorem dX6_addMagnet_12 : decode cX6_addMagnet 12 = .ok (.iload_n 2, 1) := by decide +kernel
theorem dX6_addMagnet_13 : decode cX6_addMagnet 13 = .ok (.iload_n 3, 1) := by decide +kernel
theorem dX6_addMagnet_14 : decode cX6_addMagnet 14 = .ok (.iconst 0, 1) := by decide +kernel
theorem dX6_addMagnet_15 : decode cX6_addMagnet 15 = .ok (.iconst 0, 1) := by decide +kernel
theorem dX6_addMagnet_16 : decode cX6_addMagnet 16 = .ok (.invokevirtual 46, 3) := by decide +kernel
theorem dX6_addMagnet_19 : decode cX6_addMagnet 19 = .ok (.ireturn, 1) := by decide +kernel
set_option maxRecDepth 20000 in
theorem ggX6_remember_X7_isFull : GoodIn wsX6_remember wsX7_isFull := goodIn_r _ [8, 9, 10, 51, 52, 53, 54] (by decide +kernel) (by decide +kernel)
set_option maxRecDepth 20000 in
theorem gX6_remember_X7_isFull : GoodIn wsX6_remember (wsV RX6 50 RX7 yX7_isFull wsX7_isFull) := goodIn_app (goodIn_of _ (by decide +kernel)) ggX6_remember_X7_isFull
set_option maxRecDepth 20000 in
theorem ggX6_remember_X7_dropFirst : GoodIn wsX6_remember wsX7_dropFirst := goodIn_r _ [14, 15, 16, 17, 18, 19, 20, 21, 22, 23, 24, 7, 25, 9, 51, 52, 53, 54] (by decide +kernel) (by decide +kernel)
set_option maxRecDepth 20000 in
theorem gX6_remember_X7_dropFirst : GoodIn wsX6_remember (wsV RX6 54 RX7 yX7_dropFirst wsX7_dropFirst) := goodIn_app (goodIn_of _ (by decide +kernel)) ggX6_remember_X7_dropFirst
set_option maxRecDepth 20000 in
theorem ggX6_remember_X7_add : GoodIn wsX6_remember wsX7_add := goodIn_r _ [29, 9, 30, 5, 6, 7, 8, 10, 31, 32, 33, 34, 15, 16, 51, 52, 53, 54] (by decide +kernel) (by decide +kernel)
set_option maxRecDepth 20000 in
theorem gX6_remember_X7_add : GoodIn wsX6_remember (wsV RX6 46 RX7 yX7_add wsX7_add) := goodIn_app (goodIn_of _ (by decide +kernel)) ggX6_remember_X7_add
set_option maxRecDepth 20000 in
theorem ggX6_remember_X7_size : GoodIn wsX6_remember wsX7_size := goodIn_r _ [38, 9, 51, 52, 53, 54] (by decide +kernel) (by decide +kernel)
set_option maxRecDepth 20000 in
theorem gX6_remember_X7_size : GoodIn wsX6_remember (wsV RX6 57 RX7 yX7_size wsX7_size) := goodIn_app (goodIn_of _ (by decide +kernel)) ggX6_remember_X7_size
set_option maxRecDepth 20000 in
theorem ggX6_remember_X7_get : GoodIn wsX6_remember wsX7_get := goodIn_r _ [42, 9, 15, 16, 51, 52, 53, 54] (by decide +kernel) (by decide +kernel)
set_option maxRecDepth 20000 in
theorem gX6_remember_X7_get : GoodIn wsX6_remember (wsV RX6 61 RX7 yX7_get wsX7_get) := goodIn_app (goodIn_of _ (by decide +kernel)) ggX6_remember_X7_get
set_option maxRecDepth 20000 in
theorem ggX6_remember_X7_put : GoodIn wsX6_remember wsX7_put := goodIn_r _ [34, 9, 15, 16, 51, 52, 53, 54] (by decide +kernel) (by decide +kernel)
set_option maxRecDepth 20000 in
theorem gX6_remember_X7_put : GoodIn wsX6_remember (wsV RX6 65 RX7 yX7_put wsX7_put) := goodIn_app (goodIn_of _ (by decide +kernel)) ggX6_remember_X7_put
theorem dX6_remember_0 : decode cX6_remember 0 = .ok (.aload_n 0, 1) := by decide +kernel
theorem dX6_remember_1 : decode cX6_remember 1 = .ok (.getfield 32, 3) := by decide +kernel
theorem dX6_remember_4 : decode cX6_remember 4 = .ok (.invokevirtual 50, 3) := by decide +kernel
theorem dX6_remember_7 : decode cX6_remember 7 = .ok (.ifCond .eq 10, 3) := by decide +kernel
theorem dX6_remember_10 : decode cX6_remember 10 = .ok (.aload_n 0, 1) := by decide +kernel
theorem dX6_remember_11 : decode cX6_remember 11 = .ok (.getfield 32, 3) := by decide +kernel
theorem dX6_remember_14 : decode cX6_remember 14 = .ok (.invokevirtual 54, 3) := by decide +kernel
theorem dX6_remember_17 : decode cX6_remember 17 = .ok (.aload_n 0, 1) := by decide +kernel
theorem dX6_remember_18 : decode cX6_remember 18 = .ok (.getfield 32, 3) := by decide +kernel
theorem dX6_remember_21 : decode cX6_remember 21 = .ok (.aload_n 0, 1) := by decide +kernel
theorem dX6_remember_22 : decode cX6_remember 22 = .ok (.getfield 38, 3) := by decide +kernel
theorem dX6_remember_25 : decode cX6_remember 25 = .ok (.iconst 0, 1) := by decide +kernel
theorem dX6_remember_26 : decode cX6_remember 26 = .ok (.iconst 0, 1) := by decide +kernel
theorem dX6_remember_27 : decode cX6_remember 27 = .ok (.iconst 0, 1) := by decide +kernel
theorem dX6_remember_28 : decode cX6_remember 28 = .ok (.iconst 0, 1) := by decide +kernel
theorem dX6_remember_29 : decode cX6_remember 29 = .ok (.invokevirtual 46, 3) := by decide +kernel
theorem dX6_remember_32 : decode cX6_remember 32 = .ok (.istore_n 1, 1) := by decide +kernel
theorem dX6_remember_33 : decode cX6_remember 33 = .ok (.iconst 0, 1) := by decide +kernel
theorem dX6_remember_34 : decode cX6_remember 34 = .ok (.istore_n 2, 1) := by decide +kernel
theorem dX6_remember_35 : decode cX6_remember 35 = .ok (.iload_n 2, 1) := by decide +kernel
theorem dX6_remember_36 : decode cX6_remember 36 = .ok (.aload_n 0, 1) := by decide +kernel
theorem dX6_remember_37 : decode cX6_remember 37 = .ok (.getfield 14, 3) := by decide +kernel
theorem dX6_remember_40 : decode cX6_remember 40 = .ok (.invokevirtual 57, 3) := by decide +kernel
theorem dX6_remember_43 : decode cX6_remember 43 = .ok (.if_icmp .ge 75, 3) := by decide +kernel
theorem dX6_remember_46 : decode cX6_remember 46 = .ok (.aload_n 0, 1) := by decide +kernel
theorem dX6_remember_47 : decode cX6_remember 47 = .ok (.getfield 32, 3) := by decide +kernel
theorem dX6_remember_50 : decode cX6_remember 50 = .ok (.iload_n 1, 1) := by decide +kernel
theorem dX6_remember_51 : decode cX6_remember 51 = .ok (.iconst 1, 1) := by decide +kernel
theorem dX6_remember_52 : decode cX6_remember 52 = .ok (.iconst 3, 1) := by decide +kernel
theorem dX6_remember_53 : decode cX6_remember 53 = .ok (.iload_n 2, 1) := by decide +kernel
theorem dX6_remember_54 : decode cX6_remember 54 = .ok (.imul, 1) := by decide +kernel
theorem dX6_remember_55 : decode cX6_remember 55 = .ok (.iadd, 1) := by decide +kernel
theorem dX6_remember_56 : decode cX6_remember 56 = .ok (.aload_n 0, 1) := by decide +kernel
theorem dX6_remember_57 : decode cX6_remember 57 = .ok (.getfield 14, 3) := by decide +kernel
theorem dX6_remember_60 : decode cX6_remember 60 = .ok (.iload_n 2, 1) := by decide +kernel
theorem dX6_remember_61 : decode cX6_remember 61 = .ok (.iconst 1, 1) := by decide +kernel
theorem dX6_remember_62 : decode cX6_remember 62 = .ok (.invokevirtual 61, 3) := by decide +kernel
theorem dX6_remember_65 : decode cX6_remember 65 = .ok (.invokevirtual 65, 3) := by decide +kernel
theorem dX6_remember_68 : decode cX6_remember 68 = .ok (.aload_n 0, 1) := by decide +kernel
theorem dX6_remember_69 : decode cX6_remember 69 = .ok (.getfield 32, 3) := by decide +kernel
theorem dX6_remember_72 : decode cX6_remember 72 = .ok (.iload_n 1, 1) := by decide +kernel
theorem dX6_remember_73 : decode cX6_remember 73 = .ok (.iconst 2, 1) := by decide +kernel
theorem dX6_remember_74 : decode cX6_remember 74 = .ok (.iconst 3, 1) := by decide +kernel
theorem dX6_remember_75 : decode cX6_remember 75 = .ok (.iload_n 2, 1) := by decide +kernel
theorem dX6_remember_76 : decode cX6_remember 76 = .ok (.imul, 1) := by decide +kernel
theorem dX6_remember_77 : decode cX6_remember 77 = .ok (.iadd, 1) := by decide +kernel
theorem dX6_remember_78 : decode cX6_remember 78 = .ok (.aload_n 0, 1) := by decide +kernel
theorem dX6_remember_79 : decode cX6_remember 79 = .ok (.getfield 14, 3) := by decide +kernel
theorem dX6_remember_82 : decode cX6_remember 82 = .ok (.iload_n 2, 1) := by decide +kernel
theorem dX6_remember_83 : decode cX6_remember 83 = .ok (.iconst 3, 1) := by decide +kernel
theorem dX6_remember_84 : decode cX6_remember 84 = .ok (.invokevirtual 61, 3) := by decide +kernel
theorem dX6_remember_87 : decode cX6_remember 87 = .ok (.invokevirtual 65, 3) := by decide +kernel
theorem dX6_remember_90 : decode cX6_remember 90 = .ok (.aload_n 0, 1) := by decide +kernel
theorem dX6_remember_91 : decode cX6_remember 91 = .ok (.getfield 32, 3) := by decide +kernel
theorem dX6_remember_94 : decode cX6_remember 94 = .ok (.iload_n 1, 1) := by decide +kernel
theorem dX6_remember_95 : decode cX6_remember 95 = .ok (.iconst 3, 1) := by decide +kernel
theorem dX6_remember_96 : decode cX6_remember 96 = .ok (.iconst 3, 1) := by decide +kernel
theorem dX6_remember_97 : decode cX6_remember 97 = .ok (.iload_n 2, 1) := by decide +kernel
theorem dX6_remember_98 : decode cX6_remember 98 = .ok (.imul, 1) := by decide +kernel
theorem dX6_remember_99 : decode cX6_remember 99 = .ok (.iadd, 1) := by decide +kernel
theorem dX6_remember_100 : decode cX6_remember 100 = .ok (.aload_n 0, 1) := by decide +kernel
theorem dX6_remember_101 : decode cX6_remember 101 = .ok (.getfield 14, 3) := by decide +kernel
theorem dX6_remember_104 : decode cX6_remember 104 = .ok (.iload_n 2, 1) := by decide +kernel
theorem dX6_remember_105 : decode cX6_remember 105 = .ok (.iconst 4, 1) := by decide +kernel
theorem dX6_remember_106 : decode cX6_remember 106 = .ok (.invokevirtual 61, 3) := by decide +kernel
theorem dX6_remember_109 : decode cX6_remember 109 = .ok (.invokevirtual 65, 3) := by decide +kernel
theorem dX6_remember_112 : decode cX6_remember 112 = .ok (.iinc 2 1, 3) := by decide +kernel
theorem dX6_remember_115 : decode cX6_remember 115 = .ok (.goto (-80), 3) := by decide +kernel
theorem dX6_remember_118 : decode cX6_remember 118 = .ok (.return_, 1) := by decide +kernel
set_option maxRecDepth 20000 in
theorem ggX6_goBack_X7_size : GoodIn wsX6_goBack wsX7_size := goodIn_r _ [8, 9, 31, 32, 33, 34] (by decide +kernel) (by decide +kernel)
set_option maxRecDepth 20000 in
theorem gX6_goBack_X7_size : GoodIn wsX6_goBack (wsV RX6 57 RX7 yX7_size wsX7_size) := goodIn_app (goodIn_of _ (by decide +kernel)) ggX6_goBack_X7_size
set_option maxRecDepth 20000 in
theorem ggX6_goBack_X7_get : GoodIn wsX6_goBack wsX7_get := goodIn_r _ [13, 9, 14, 15, 31, 32, 33, 34] (by decide +kernel) (by decide +kernel)
set_option maxRecDepth 20000 in
theorem gX6_goBack_X7_get : GoodIn wsX6_goBack (wsV RX6 61 RX7 yX7_get wsX7_get) := goodIn_app (goodIn_of _ (by decide +kernel)) ggX6_goBack_X7_get
set_option maxRecDepth 20000 in
theorem ggX6_goBack_X7_put : GoodIn wsX6_goBack wsX7_put := goodIn_r _ [19, 9, 14, 15, 31, 32, 33, 34] (by decide +kernel) (by decide +kernel)
set_option maxRecDepth 20000 in
theorem gX6_goBack_X7_put : GoodIn wsX6_goBack (wsV RX6 65 RX7 yX7_put wsX7_put) := goodIn_app (goodIn_of _ (by decide +kernel)) ggX6_goBack_X7_put
set_option maxRecDepth 20000 in
theorem ggX6_goBack_X7_dropLast : GoodIn wsX6_goBack wsX7_dropLast := goodIn_r _ [23, 9, 31, 32, 33, 34] (by decide +kernel) (by decide +kernel)
set_option maxRecDepth 20000 in
theorem gX6_goBack_X7_dropLast : GoodIn wsX6_goBack (wsV RX6 69 RX7 yX7_dropLast wsX7_dropLast) := goodIn_app (goodIn_of _ (by decide +kernel)) ggX6_goBack_X7_dropLast
theorem dX6_goBack_0 : decode cX6_goBack 0 = .ok (.aload_n 0, 1) := by decide +kernel
theorem dX6_goBack_1 : decode cX6_goBack 1 = .ok (.getfield 32, 3) := by decide +kernel
theorem dX6_goBack_4 : decode cX6_goBack 4 = .ok (.invokevirtual 57, 3) := by decide +kernel
theorem dX6_goBack_7 : decode cX6_goBack 7 = .ok (.iconst 1, 1) := by decide +kernel
theorem dX6_goBack_8 : decode cX6_goBack 8 = .ok (.isub, 1) := by decide +kernel
theorem dX6_goBack_9 : decode cX6_goBack 9 = .ok (.istore_n 1, 1) := by decide +kernel
theorem dX6_goBack_10 : decode cX6_goBack 10 = .ok (.aload_n 0, 1) := by decide +kernel
theorem dX6_goBack_11 : decode cX6_goBack 11 = .ok (.aload_n 0, 1) := by decide +kernel
theorem dX6_goBack_12 : decode cX6_goBack 12 = .ok (.getfield 32, 3) := by decide +kernel
theorem dX6_goBack_15 : decode cX6_goBack 15 = .ok (.iload_n 1, 1) := by decide +kernel
theorem dX6_goBack_16 : decode cX6_goBack 16 = .ok (.iconst 0, 1) := by decide +kernel
theorem dX6_goBack_17 : decode cX6_goBack 17 = .ok (.invokevirtual 61, 3) := by decide +kernel
theorem dX6_goBack_20 : decode cX6_goBack 20 = .ok (.putfield 38, 3) := by decide +kernel
theorem dX6_goBack_23 : decode cX6_goBack 23 = .ok (.iconst 0, 1) := by decide +kernel
theorem dX6_goBack_24 : decode cX6_goBack 24 = .ok (.istore_n 2, 1) := by decide +kernel
theorem dX6_goBack_25 : decode cX6_goBack 25 = .ok (.iload_n 2, 1) := by decide +kernel
theorem dX6_goBack_26 : decode cX6_goBack 26 = .ok (.aload_n 0, 1) := by decide +kernel
theorem dX6_goBack_27 : decode cX6_goBack 27 = .ok (.getfield 14, 3) := by decide +kernel
theorem dX6_goBack_30 : decode cX6_goBack 30 = .ok (.invokevirtual 57, 3) := by decide +kernel
theorem dX6_goBack_33 : decode cX6_goBack 33 = .ok (.if_icmp .ge 75, 3) := by decide +kernel
theorem dX6_goBack_36 : decode cX6_goBack 36 = .ok (.aload_n 0, 1) := by decide +kernel
theorem dX6_goBack_37 : decode cX6_goBack 37 = .ok (.getfield 14, 3) := by decide +kernel
theorem dX6_goBack_40 : decode cX6_goBack 40 = .ok (.iload_n 2, 1) := by decide +kernel
theorem dX6_goBack_41 : decode cX6_goBack 41 = .ok (.iconst 1, 1) := by decide +kernel
theorem dX6_goBack_42 : decode cX6_goBack 42 = .ok (.aload_n 0, 1) := by decide +kernel
theorem dX6_goBack_43 : decode cX6_goBack 43 = .ok (.getfield 32, 3) := by decide +kernel
theorem dX6_goBack_46 : decode cX6_goBack 46 = .ok (.iload_n 1, 1) := by decide +kernel
theorem dX6_goBack_47 : decode cX6_goBack 47 = .ok (.iconst 1, 1) := by decide +kernel
theorem dX6_goBack_48 : decode cX6_goBack 48 = .ok (.iconst 3, 1) := by decide +kernel
theorem dX6_goBack_49 : decode cX6_goBack 49 = .ok (.iload_n 2, 1) := by decide +kernel
theorem dX6_goBack_50 : decode cX6_goBack 50 = .ok (.imul, 1) := by decide +kernel
theorem dX6_goBack_51 : decode cX6_goBack 51 = .ok (.iadd, 1) := by decide +kernel
theorem dX6_goBack_52 : decode cX6_goBack 52 = .ok (.invokevirtual 61, 3) := by decide +kernel
theorem dX6_goBack_55 : decode cX6_goBack 55 = .ok (.invokevirtual 65, 3) := by decide +kernel
theorem dX6_goBack_58 : decode cX6_goBack 58 = .ok (.aload_n 0, 1) := by decide +kernel
theorem dX6_goBack_59 : decode cX6_goBack 59 = .ok (.getfield 14, 3) := by decide +kernel
theorem dX6_goBack_62 : decode cX6_goBack 62 = .ok (.iload_n 2, 1) := by decide +kernel
theorem dX6_goBack_63 : decode cX6_goBack 63 = .ok (.iconst 3, 1) := by decide +kernel
theorem dX6_goBack_64 : decode cX6_goBack 64 = .ok (.aload_n 0, 1) := by decide +kernel
theorem dX6_goBack_65 : decode cX6_goBack 65 = .ok (.getfield 32, 3) := by decide +kernel
theorem dX6_goBack_68 : decode cX6_goBack 68 = .ok (.iload_n 1, 1) := by decide +kernel
theorem dX6_goBack_69 : decode cX6_goBack 69 = .ok (.iconst 2, 1) := by decide +kernel
theorem dX6_goBack_70 : decode cX6_goBack 70 = .ok (.iconst 3, 1) := by decide +kernel
theorem dX6_goBack_71 : decode cX6_goBack 71 = .ok (.iload_n 2, 1) := by decide +kernel
theorem dX6_goBack_72 : decode cX6_goBack 72 = .ok (.imul, 1) := by decide +kernel
theorem dX6_goBack_73 : decode cX6_goBack 73 = .ok (.iadd, 1) := by decide +kernel
theorem dX6_goBack_74 : decode cX6_goBack 74 = .ok (.invokevirtual 61, 3) := by decide +kernel
theorem dX6_goBack_77 : decode cX6_goBack 77 = .ok (.invokevirtual 65, 3) := by decide +kernel
theorem dX6_goBack_80 : decode cX6_goBack 80 = .ok (.aload_n 0, 1) := by decide +kernel
theorem dX6_goBack_81 : decode cX6_goBack 81 = .ok (.getfield 14, 3) := by decide +kernel
theorem dX6_goBack_84 : decode cX6_goBack 84 = .ok (.iload_n 2, 1) := by decide +kernel
theorem dX6_goBack_85 : decode cX6_goBack 85 = .ok (.iconst 4, 1) := by decide +kernel
theorem dX6_goBack_86 : decode cX6_goBack 86 = .ok (.aload_n 0, 1) := by decide +kernel
theorem dX6_goBack_87 : decode cX6_goBack 87 = .ok (.getfield 32, 3) := by decide +kernel
theorem dX6_goBack_90 : decode cX6_goBack 90 = .ok (.iload_n 1, 1) := by decide +kernel
theorem dX6_goBack_91 : decode cX6_goBack 91 = .ok (.iconst 3, 1) := by decide +kernel
theorem dX6_goBack_92 : decode cX6_goBack 92 = .ok (.iconst 3, 1) := by decide +kernel
theorem dX6_goBack_93 : decode cX6_goBack 93 = .ok (.iload_n 2, 1) := by decide +kernel
theorem dX6_goBack_94 : decode cX6_goBack 94 = .ok (.imul, 1) := by decide +kernel
theorem dX6_goBack_95 : decode cX6_goBack 95 = .ok (.iadd, 1) := by decide +kernel
theorem dX6_goBack_96 : decode cX6_goBack 96 = .ok (.invokevirtual 61, 3) := by decide +kernel
theorem dX6_goBack_99 : decode cX6_goBack 99 = .ok (.invokevirtual 65, 3) := by decide +kernel
theorem dX6_goBack_102 : decode cX6_goBack 102 = .ok (.iinc 2 1, 3) := by decide +kernel
theorem dX6_goBack_105 : decode cX6_goBack 105 = .ok (.goto (-80), 3) := by decide +kernel
theorem dX6_goBack_108 : decode cX6_goBack 108 = .ok (.aload_n 0, 1) := by decide +kernel
theorem dX6_goBack_109 : decode cX6_goBack 109 = .ok (.getfield 32, 3) := by decide +kernel
theorem dX6_goBack_112 : decode cX6_goBack 112 = .ok (.invokevirtual 69, 3) := by decide +kernel
theorem dX6_goBack_115 : decode cX6_goBack 115 = .ok (.return_, 1) := by decide +kernel
set_option maxRecDepth 20000 in
theorem ggX6_passDays_X1_passDays : GoodIn wsX6_passDays wsX1_passDays := goodIn_r _ [11, 12, 13, 14, 15, 16, 17, 18, 19, 20, 21, 22, 23, 24, 25, 26, 27, 28, 29, 30, 31, 32, 33, 34, 35, 36, 37, 10, 38, 39, 40, 4, 41, 42, 43, 44, 45, 46, 47, 48, 49, 50, 51, 52, 53, 54, 55, 56, 57, 58, 59, 60, 61, 62, 63, 64, 65, 66, 67, 3, 5, 68, 69, 70, 71, 79, 80, 81, 82] (by decide +kernel) (by decide +kernel)
set_option maxRecDepth 20000 in
theorem gX6_passDays_X1_passDays : GoodIn wsX6_passDays (va_wsS RX6 77 yX1_passDays wsX1_passDays) := goodIn_app (goodIn_of _ (by decide +kernel)) ggX6_passDays_X1_passDays
theorem dX6_passDays_0 : decode cX6_passDays 0 = .ok (.iload_n 1, 1) := by decide +kernel
theorem dX6_passDays_1 : decode cX6_passDays 1 = .ok (.sipush 999, 3) := by decide +kernel
theorem dX6_passDays_4 : decode cX6_passDays 4 = .ok (.aload_n 0, 1) := by decide +kernel
theorem dX6_passDays_5 : decode cX6_passDays 5 = .ok (.getfield 38, 3) := by decide +kernel
theorem dX6_passDays_8 : decode cX6_passDays 8 = .ok (.isub, 1) := by decide +kernel
theorem dX6_passDays_9 : decode cX6_passDays 9 = .ok (.invokestatic 72, 3) := by decide +kernel
theorem dX6_passDays_12 : decode cX6_passDays 12 = .ok (.istore_n 2, 1) := by decide +kernel
theorem dX6_passDays_13 : decode cX6_passDays 13 = .ok (.aload_n 0, 1) := by decide +kernel
theorem dX6_passDays_14 : decode cX6_passDays 14 = .ok (.getfield 14, 3) := by decide +kernel
theorem dX6_passDays_17 : decode cX6_passDays 17 = .ok (.aload_n 0, 1) := by decide +kernel
theorem dX6_passDays_18 : decode cX6_passDays 18 = .ok (.getfield 20, 3) := by decide +kernel
theorem dX6_passDays_21 : decode cX6_passDays 21 = .ok (.aload_n 0, 1) := by decide +kernel
theorem dX6_passDays_22 : decode cX6_passDays 22 = .ok (.getfield 38, 3) := by decide +kernel
theorem dX6_passDays_25 : decode cX6_passDays 25 = .ok (.iload_n 2, 1) := by decide +kernel
theorem dX6_passDays_26 : decode cX6_passDays 26 = .ok (.invokestatic 77, 3) := by decide +kernel
theorem dX6_passDays_29 : decode cX6_passDays 29 = .ok (.istore_n 3, 1) := by decide +kernel
theorem dX6_passDays_30 : decode cX6_passDays 30 = .ok (.aload_n 0, 1) := by decide +kernel
theorem dX6_passDays_31 : decode cX6_passDays 31 = .ok (.dup, 1) := by decide +kernel
theorem dX6_passDays_32 : decode cX6_passDays 32 = .ok (.getfield 38, 3) := by decide +kernel
theorem dX6_passDays_35 : decode cX6_passDays 35 = .ok (.iload_n 2, 1) := by decide +kernel
theorem dX6_passDays_36 : decode cX6_passDays 36 = .ok (.iadd, 1) := by decide +kernel
theorem dX6_passDays_37 : decode cX6_passDays 37 = .ok (.putfield 38, 3) := by decide +kernel
theorem dX6_passDays_40 : decode cX6_passDays 40 = .ok (.iload_n 3, 1) := by decide +kernel
theorem dX6_passDays_41 : decode cX6_passDays 41 = .ok (.ireturn, 1) := by decide +kernel
set_option maxRecDepth 20000 in
theorem ggX7_init_X11_within : GoodIn wsX7_init wsX11_within := goodIn_r _ [10] (by decide +kernel) (by decide +kernel)
set_option maxRecDepth 20000 in
theorem gX7_init_X11_within_n9 : GoodIn wsX7_init (wsX11_within) := ggX7_init_X11_within
theorem dX7_init_0 : decode cX7_init 0 = .ok (.aload_n 0, 1) := by decide +kernel
theorem dX7_init_1 : decode cX7_init 1 = .ok (.invokespecial 3, 3) := by decide +kernel
theorem dX7_init_4 : decode cX7_init 4 = .ok (.aload_n 0, 1) := by decide +kernel
theorem dX7_init_5 : decode cX7_init 5 = .ok (.iload_n 1, 1) := by decide +kernel
theorem dX7_init_6 : decode cX7_init 6 = .ok (.iconst 0, 1) := by decide +kernel
theorem dX7_init_7 : decode cX7_init 7 = .ok (.bipush 100, 2) := by decide +kernel
theorem dX7_init_9 : decode cX7_init 9 = .ok (.invokestatic 9, 3) := by decide +kernel
theorem dX7_init_12 : decode cX7_init 12 = .ok (.ifCond .eq 7, 3) := by decide +kernel
theorem dX7_init_15 : decode cX7_init 15 = .ok (.iload_n 1, 1) := by decide +kernel
theorem dX7_init_16 : decode cX7_init 16 = .ok (.goto 4, 3) := by decide +kernel
theorem dX7_init_19 : decode cX7_init 19 = .ok (.iconst 0, 1) := by decide +kernel
theorem dX7_init_20 : decode cX7_init 20 = .ok (.putfield 13, 3) := by decide +kernel
theorem dX7_init_23 : decode cX7_init 23 = .ok (.aload_n 0, 1) := by decide +kernel
theorem dX7_init_24 : decode cX7_init 24 = .ok (.iload_n 2, 1) := by decide +kernel
theorem dX7_init_25 : decode cX7_init 25 = .ok (.iconst 0, 1) := by decide +kernel
theorem dX7_init_26 : decode cX7_init 26 = .ok (.bipush 100, 2) := by decide +kernel
theorem dX7_init_28 : decode cX7_init 28 = .ok (.invokestatic 9, 3) := by decide +kernel
theorem dX7_init_31 : decode cX7_init 31 = .ok (.ifCond .eq 7, 3) := by decide +kernel
theorem dX7_init_34 : decode cX7_init 34 = .ok (.iload_n 2, 1) := by decide +kernel
theorem dX7_init_35 : decode cX7_init 35 = .ok (.goto 4, 3) := by decide +kernel
theorem dX7_init_38 : decode cX7_init 38 = .ok (.iconst 0, 1) := by decide +kernel
theorem dX7_init_39 : decode cX7_init 39 = .ok (.putfield 19, 3) := by decide +kernel
theorem dX7_init_42 : decode cX7_init 42 = .ok (.aload_n 0, 1) := by decide +kernel
theorem dX7_init_43 : decode cX7_init 43 = .ok (.aload_n 0, 1) := by decide +kernel
theorem dX7_init_44 : decode cX7_init 44 = .ok (.getfield 13, 3) := by decide +kernel
theorem dX7_init_47 : decode cX7_init 47 = .ok (.aload_n 0, 1) := by decide +kernel
theorem dX7_init_48 : decode cX7_init 48 = .ok (.getfield 19, 3) := by decide +kernel
theorem dX7_init_51 : decode cX7_init 51 = .ok (.imul, 1) := by decide +kernel
theorem dX7_init_52 : decode cX7_init 52 = .ok (.newarray .int, 2) := by decide +kernel
theorem dX7_init_54 : decode cX7_init 54 = .ok (.putfield 22, 3) := by decide +kernel
theorem dX7_init_57 : decode cX7_init 57 = .ok (.return_, 1) := by decide +kernel
theorem dX7_size_0 : decode cX7_size 0 = .ok (.aload_n 0, 1) := by decide +kernel
theorem dX7_size_1 : decode cX7_size 1 = .ok (.getfield 26, 3) := by decide +kernel
theorem dX7_size_4 : decode cX7_size 4 = .ok (.ireturn, 1) := by decide +kernel
theorem dX7_isFull_0 : decode cX7_isFull 0 = .ok (.aload_n 0, 1) := by decide +kernel
theorem dX7_isFull_1 : decode cX7_isFull 1 = .ok (.getfield 26, 3) := by decide +kernel
theorem dX7_isFull_4 : decode cX7_isFull 4 = .ok (.aload_n 0, 1) := by decide +kernel
theorem dX7_isFull_5 : decode cX7_isFull 5 = .ok (.getfield 13, 3) := by decide +kernel
theorem dX7_isFull_8 : decode cX7_isFull 8 = .ok (.if_icmp .lt 7, 3) := by decide +kernel
theorem dX7_isFull_11 : decode cX7_isFull 11 = .ok (.iconst 1, 1) := by decide +kernel
theorem dX7_isFull_12 : decode cX7_isFull 12 = .ok (.goto 4, 3) := by decide +kernel
theorem dX7_isFull_15 : decode cX7_isFull 15 = .ok (.iconst 0, 1) := by decide +kernel
theorem dX7_isFull_16 : decode cX7_isFull 16 = .ok (.ireturn, 1) := by decide +kernel
theorem dX7_has_0 : decode cX7_has 0 = .ok (.iload_n 1, 1) := by decide +kernel
theorem dX7_has_1 : decode cX7_has 1 = .ok (.ifCond .lt 15, 3) := by decide +kernel
theorem dX7_has_4 : decode cX7_has 4 = .ok (.iload_n 1, 1) := by decide +kernel
theorem dX7_has_5 : decode cX7_has 5 = .ok (.aload_n 0, 1) := by decide +kernel
theorem dX7_has_6 : decode cX7_has 6 = .ok (.getfield 26, 3) := by decide +kernel
theorem dX7_has_9 : decode cX7_has 9 = .ok (.if_icmp .ge 7, 3) := by decide +kernel
theorem dX7_has_12 : decode cX7_has 12 = .ok (.iconst 1, 1) := by decide +kernel
theorem dX7_has_13 : decode cX7_has 13 = .ok (.goto 4, 3) := by decide +kernel
theorem dX7_has_16 : decode cX7_has 16 = .ok (.iconst 0, 1) := by decide +kernel
theorem dX7_has_17 : decode cX7_has 17 = .ok (.ireturn, 1) := by decide +kernel
theorem dX7_get_0 : decode cX7_get 0 = .ok (.iload_n 1, 1) := by decide +kernel
theorem dX7_get_1 : decode cX7_get 1 = .ok (.ifCond .lt 27, 3) := by decide +kernel
theorem dX7_get_4 : decode cX7_get 4 = .ok (.iload_n 1, 1) := by decide +kernel
theorem dX7_get_5 : decode cX7_get 5 = .ok (.aload_n 0, 1) := by decide +kernel
theorem dX7_get_6 : decode cX7_get 6 = .ok (.getfield 26, 3) := by decide +kernel
theorem dX7_get_9 : decode cX7_get 9 = .ok (.if_icmp .ge 19, 3) := by decide +kernel
theorem dX7_get_12 : decode cX7_get 12 = .ok (.iload_n 2, 1) := by decide +kernel
theorem dX7_get_13 : decode cX7_get 13 = .ok (.ifCond .lt 15, 3) := by decide +kernel
theorem dX7_get_16 : decode cX7_get 16 = .ok (.iload_n 2, 1) := by decide +kernel
theorem dX7_get_17 : decode cX7_get 17 = .ok (.aload_n 0, 1) := by decide +kernel
theorem dX7_get_18 : decode cX7_get 18 = .ok (.getfield 19, 3) := by decide +kernel
theorem dX7_get_21 : decode cX7_get 21 = .ok (.if_icmp .ge 7, 3) := by decide +kernel
theorem dX7_get_24 : decode cX7_get 24 = .ok (.iconst 1, 1) := by decide +kernel
theorem dX7_get_25 : decode cX7_get 25 = .ok (.goto 4, 3) := by decide +kernel
theorem dX7_get_28 : decode cX7_get 28 = .ok (.iconst 0, 1) := by decide +kernel
theorem dX7_get_29 : decode cX7_get 29 = .ok (.istore_n 3, 1) := by decide +kernel
theorem dX7_get_30 : decode cX7_get 30 = .ok (.iload_n 3, 1) := by decide +kernel
theorem dX7_get_31 : decode cX7_get 31 = .ok (.ifCond .eq 14, 3) := by decide +kernel
theorem dX7_get_34 : decode cX7_get 34 = .ok (.iload_n 1, 1) := by decide +kernel
theorem dX7_get_35 : decode cX7_get 35 = .ok (.aload_n 0, 1) := by decide +kernel
theorem dX7_get_36 : decode cX7_get 36 = .ok (.getfield 19, 3) := by decide +kernel
theorem dX7_get_39 : decode cX7_get 39 = .ok (.imul, 1) := by decide +kernel
theorem dX7_get_40 : decode cX7_get 40 = .ok (.iload_n 2, 1) := by decide +kernel
theorem dX7_get_41 : decode cX7_get 41 = .ok (.iadd, 1) := by decide +kernel
theorem dX7_get_42 : decode cX7_get 42 = .ok (.goto 4, 3) := by decide +kernel
theorem dX7_get_45 : decode cX7_get 45 = .ok (.iconst (-1), 1) := by decide +kernel
theorem dX7_get_46 : decode cX7_get 46 = .ok (.istore 4, 2) := by decide +kernel
theorem dX7_get_48 : decode cX7_get 48 = .ok (.iload 4, 2) := by decide +kernel
theorem dX7_get_50 : decode cX7_get 50 = .ok (.ifCond .lt 23, 3) := by decide +kernel
theorem dX7_get_53 : decode cX7_get 53 = .ok (.iload 4, 2) := by decide +kernel
theorem dX7_get_55 : decode cX7_get 55 = .ok (.aload_n 0, 1) := by decide +kernel
theorem dX7_get_56 : decode cX7_get 56 = .ok (.getfield 22, 3) := by decide +kernel
theorem dX7_get_59 : decode cX7_get 59 = .ok (.arraylength, 1) := by decide +kernel
theorem dX7_get_60 : decode cX7_get 60 = .ok (.if_icmp .ge 13, 3) := by decide +kernel
theorem dX7_get_63 : decode cX7_get 63 = .ok (.aload_n 0, 1) := by decide +kernel
theorem dX7_get_64 : decode cX7_get 64 = .ok (.getfield 22, 3) := by decide +kernel
theorem dX7_get_67 : decode cX7_get 67 = .ok (.iload 4, 2) := by decide +kernel
theorem dX7_get_69 : decode cX7_get 69 = .ok (.iaload, 1) := by decide +kernel
theorem dX7_get_70 : decode cX7_get 70 = .ok (.goto 4, 3) := by decide +kernel
theorem dX7_get_73 : decode cX7_get 73 = .ok (.iconst (-1), 1) := by decide +kernel
theorem dX7_get_74 : decode cX7_get 74 = .ok (.ireturn, 1) := by decide +kernel
theorem dX7_put_0 : decode cX7_put 0 = .ok (.iload_n 1, 1) := by decide +kernel
theorem dX7_put_1 : decode cX7_put 1 = .ok (.ifCond .lt 27, 3) := by decide +kernel
theorem dX7_put_4 : decode cX7_put 4 = .ok (.iload_n 1, 1) := by decide +kernel
theorem dX7_put_5 : decode cX7_put 5 = .ok (.aload_n 0, 1) := by decide +kernel
theorem dX7_put_6 : decode cX7_put 6 = .ok (.getfield 26, 3) := by decide +kernel
theorem dX7_put_9 : decode cX7_put 9 = .ok (.if_icmp .ge 19, 3) := by decide +kernel
theorem dX7_put_12 : decode cX7_put 12 = .ok (.iload_n 2, 1) := by decide +kernel
theorem dX7_put_13 : decode cX7_put 13 = .ok (.ifCond .lt 15, 3) := by decide +kernel
theorem dX7_put_16 : decode cX7_put 16 = .ok (.iload_n 2, 1) := by decide +kernel
theorem dX7_put_17 : decode cX7_put 17 = .ok (.aload_n 0, 1) := by decide +kernel
theorem dX7_put_18 : decode cX7_put 18 = .ok (.getfield 19, 3) := by decide +kernel
theorem dX7_put_21 : decode cX7_put 21 = .ok (.if_icmp .ge 7, 3) := by decide +kernel
theorem dX7_put_24 : decode cX7_put 24 = .ok (.iconst 1, 1) := by decide +kernel
theorem dX7_put_25 : decode cX7_put 25 = .ok (.goto 4, 3) := by decide +kernel
theorem dX7_put_28 : decode cX7_put 28 = .ok (.iconst 0, 1) := by decide +kernel
theorem dX7_put_29 : decode cX7_put 29 = .ok (.istore 4, 2) := by decide +kernel
theorem dX7_put_31 : decode cX7_put 31 = .ok (.iload 4, 2) := by decide +kernel
theorem dX7_put_33 : decode cX7_put 33 = .ok (.ifCond .eq 14, 3) := by decide +kernel
theorem dX7_put_36 : decode cX7_put 36 = .ok (.iload_n 1, 1) := by decide +kernel
theorem dX7_put_37 : decode cX7_put 37 = .ok (.aload_n 0, 1) := by decide +kernel
theorem dX7_put_38 : decode cX7_put 38 = .ok (.getfield 19, 3) := by decide +kernel
theorem dX7_put_41 : decode cX7_put 41 = .ok (.imul, 1) := by decide +kernel
theorem dX7_put_42 : decode cX7_put 42 = .ok (.iload_n 2, 1) := by decide +kernel
theorem dX7_put_43 : decode cX7_put 43 = .ok (.iadd, 1) := by decide +kernel
theorem dX7_put_44 : decode cX7_put 44 = .ok (.goto 4, 3) := by decide +kernel
theorem dX7_put_47 : decode cX7_put 47 = .ok (.iconst (-1), 1) := by decide +kernel
theorem dX7_put_48 : decode cX7_put 48 = .ok (.istore 5, 2) := by decide +kernel
theorem dX7_put_50 : decode cX7_put 50 = .ok (.iload 5, 2) := by decide +kernel
theorem dX7_put_52 : decode cX7_put 52 = .ok (.ifCond .lt 21, 3) := by decide +kernel
theorem dX7_put_55 : decode cX7_put 55 = .ok (.iload 5, 2) := by decide +kernel
theorem dX7_put_57 : decode cX7_put 57 = .ok (.aload_n 0, 1) := by decide +kernel
theorem dX7_put_58 : decode cX7_put 58 = .ok (.getfield 22, 3) := by decide +kernel
theorem dX7_put_61 : decode cX7_put 61 = .ok (.arraylength, 1) := by decide +kernel
theorem dX7_put_62 : decode cX7_put 62 = .ok (.if_icmp .ge 11, 3) := by decide +kernel
theorem dX7_put_65 : decode cX7_put 65 = .ok (.aload_n 0, 1) := by decide +kernel
theorem dX7_put_66 : decode cX7_put 66 = .ok (.getfield 22, 3) := by decide +kernel
theorem dX7_put_69 : decode cX7_put 69 = .ok (.iload 5, 2) := by decide +kernel
theorem dX7_put_71 : decode cX7_put 71 = .ok (.iload_n 3, 1) := by decide +kernel
theorem dX7_put_72 : decode cX7_put 72 = .ok (.iastore, 1) := by decide +kernel
theorem dX7_put_73 : decode cX7_put 73 = .ok (.return_, 1) := by decide +kernel
set_option maxRecDepth 20000 in
theorem ggX7_add_X7_isFull : GoodIn wsX7_add wsX7_isFull := goodIn_r _ [6, 1, 7, 14, 15, 16, 17] (by decide +kernel) (by decide +kernel)
set_option maxRecDepth 20000 in
theorem gX7_add_X7_isFull : GoodIn wsX7_add (wsV RX7 29 RX7 yX7_isFull wsX7_isFull) := goodIn_app (goodIn_of _ (by decide +kernel)) ggX7_add_X7_isFull
set_option maxRecDepth 20000 in
theorem ggX7_add_X7_put : GoodIn wsX7_add wsX7_put := goodIn_r _ [11, 1, 12, 13, 14, 15, 16, 17] (by decide +kernel) (by decide +kernel)
set_option maxRecDepth 20000 in
theorem gX7_add_X7_put : GoodIn wsX7_add (wsV RX7 33 RX7 yX7_put wsX7_put) := goodIn_app (goodIn_of _ (by decide +kernel)) ggX7_add_X7_put
theorem dX7_add_0 : decode cX7_add 0 = .ok (.aload_n 0, 1) := by decide +kernel
theorem dX7_add_1 : decode cX7_add 1 = .ok (.invokevirtual 29, 3) := by decide +kernel
theorem dX7_add_4 : decode cX7_add 4 = .ok (.ifCond .eq 5, 3) := by decide +kernel
theorem dX7_add_7 : decode cX7_add 7 = .ok (.iconst (-1), 1) := by decide +kernel
theorem dX7_add_8 : decode cX7_add 8 = .ok (.ireturn, 1) := by decide +kernel
theorem dX7_add_9 : decode cX7_add 9 = .ok (.aload_n 0, 1) := by decide +kernel
theorem dX7_add_10 : decode cX7_add 10 = .ok (.getfield 26, 3) := by decide +kernel
theorem dX7_add_13 : decode cX7_add 13 = .ok (.istore 6, 2) := by decide +kernel
theorem dX7_add_15 : decode cX7_add 15 = .ok (.aload_n 0, 1) := by decide +kernel
theorem dX7_add_16 : decode cX7_add 16 = .ok (.dup, 1) := by decide +kernel
theorem dX7_add_17 : decode cX7_add 17 = .ok (.getfield 26, 3) := by decide +kernel
theorem dX7_add_20 : decode cX7_add 20 = .ok (.iconst 1, 1) := by decide +kernel
theorem dX7_add_21 : decode cX7_add 21 = .ok (.iadd, 1) := by decide +kernel
theorem dX7_add_22 : decode cX7_add 22 = .ok (.putfield 26, 3) := by decide +kernel
theorem dX7_add_25 : decode cX7_add 25 = .ok (.aload_n 0, 1) := by decide +kernel
theorem dX7_add_26 : decode cX7_add 26 = .ok (.iload 6, 2) := by decide +kernel
theorem dX7_add_28 : decode cX7_add 28 = .ok (.iconst 0, 1) := by decide +kernel
theorem dX7_add_29 : decode cX7_add 29 = .ok (.iload_n 1, 1) := by decide +kernel
theorem dX7_add_30 : decode cX7_add 30 = .ok (.invokevirtual 33, 3) := by decide +kernel
theorem dX7_add_33 : decode cX7_add 33 = .ok (.aload_n 0, 1) := by decide +kernel
theorem dX7_add_34 : decode cX7_add 34 = .ok (.iload 6, 2) := by decide +kernel
theorem dX7_add_36 : decode cX7_add 36 = .ok (.iconst 1, 1) := by decide +kernel
theorem dX7_add_37 : decode cX7_add 37 = .ok (.iload_n 2, 1) := by decide +kernel
theorem dX7_add_38 : decode cX7_add 38 = .ok (.invokevirtual 33, 3) := by decide +kernel
theorem dX7_add_41 : decode cX7_add 41 = .ok (.aload_n 0, 1) := by decide +kernel
theorem dX7_add_42 : decode cX7_add 42 = .ok (.iload 6, 2) := by decide +kernel
theorem dX7_add_44 : decode cX7_add 44 = .ok (.iconst 2, 1) := by decide +kernel
theorem dX7_add_45 : decode cX7_add 45 = .ok (.iload_n 3, 1) := by decide +kernel
theorem dX7_add_46 : decode cX7_add 46 = .ok (.invokevirtual 33, 3) := by decide +kernel
theorem dX7_add_49 : decode cX7_add 49 = .ok (.aload_n 0, 1) := by decide +kernel
theorem dX7_add_50 : decode cX7_add 50 = .ok (.iload 6, 2) := by decide +kernel
theorem dX7_add_52 : decode cX7_add 52 = .ok (.iconst 3, 1) := by decide +kernel
theorem dX7_add_53 : decode cX7_add 53 = .ok (.iload 4, 2) := by decide +kernel
theorem dX7_add_55 : decode cX7_add 55 = .ok (.invokevirtual 33, 3) := by decide +kernel
theorem dX7_add_58 : decode cX7_add 58 = .ok (.aload_n 0, 1) := by decide +kernel
theorem dX7_add_59 : decode cX7_add 59 = .ok (.iload 6, 2) := by decide +kernel
theorem dX7_add_61 : decode cX7_add 61 = .ok (.iconst 4, 1) := by decide +kernel
theorem dX7_add_62 : decode cX7_add 62 = .ok (.iload 5, 2) := by decide +kernel
theorem dX7_add_64 : decode cX7_add 64 = .ok (.invokevirtual 33, 3) := by decide +kernel
theorem dX7_add_67 : decode cX7_add 67 = .ok (.iload 6, 2) := by decide +kernel
theorem dX7_add_69 : decode cX7_add 69 = .ok (.ireturn, 1) := by decide +kernel
set_option maxRecDepth 20000 in
theorem ggX7_dropFirst_X11_cell : GoodIn wsX7_dropFirst wsX11_cell := goodIn_r _ [5] (by decide +kernel) (by decide +kernel)
set_option maxRecDepth 20000 in
theorem gX7_dropFirst_X11_cell_n37 : GoodIn wsX7_dropFirst (wsX11_cell) := ggX7_dropFirst_X11_cell
set_option maxRecDepth 20000 in
theorem ggX7_dropFirst_X11_setCell : GoodIn wsX7_dropFirst wsX11_setCell := goodIn_r _ [7] (by decide +kernel) (by decide +kernel)
set_option maxRecDepth 20000 in
theorem gX7_dropFirst_X11_setCell_n41 : GoodIn wsX7_dropFirst (wsX11_setCell) := ggX7_dropFirst_X11_setCell
set_option maxRecDepth 20000 in
theorem ggX7_dropFirst_X7_dropLast : GoodIn wsX7_dropFirst wsX7_dropLast := goodIn_r _ [12, 13, 14, 15, 16, 17] (by decide +kernel) (by decide +kernel)
set_option maxRecDepth 20000 in
theorem gX7_dropFirst_X7_dropLast : GoodIn wsX7_dropFirst (wsV RX7 45 RX7 yX7_dropLast wsX7_dropLast) := goodIn_app (goodIn_of _ (by decide +kernel)) ggX7_dropFirst_X7_dropLast
theorem dX7_dropFirst_0 : decode cX7_dropFirst 0 = .ok (.aload_n 0, 1) := by decide +kernel
theorem dX7_dropFirst_1 : decode cX7_dropFirst 1 = .ok (.getfield 19, 3) := by decide +kernel
theorem dX7_dropFirst_4 : decode cX7_dropFirst 4 = .ok (.istore_n 1, 1) := by decide +kernel
theorem dX7_dropFirst_5 : decode cX7_dropFirst 5 = .ok (.iload_n 1, 1) := by decide +kernel
theorem dX7_dropFirst_6 : decode cX7_dropFirst 6 = .ok (.aload_n 0, 1) := by decide +kernel
theorem dX7_dropFirst_7 : decode cX7_dropFirst 7 = .ok (.getfield 22, 3) := by decide +kernel
theorem dX7_dropFirst_10 : decode cX7_dropFirst 10 = .ok (.arraylength, 1) := by decide +kernel
theorem dX7_dropFirst_11 : decode cX7_dropFirst 11 = .ok (.if_icmp .ge 30, 3) := by decide +kernel
theorem dX7_dropFirst_14 : decode cX7_dropFirst 14 = .ok (.aload_n 0, 1) := by decide +kernel
theorem dX7_dropFirst_15 : decode cX7_dropFirst 15 = .ok (.getfield 22, 3) := by decide +kernel
theorem dX7_dropFirst_18 : decode cX7_dropFirst 18 = .ok (.iload_n 1, 1) := by decide +kernel
theorem dX7_dropFirst_19 : decode cX7_dropFirst 19 = .ok (.aload_n 0, 1) := by decide +kernel
theorem dX7_dropFirst_20 : decode cX7_dropFirst 20 = .ok (.getfield 19, 3) := by decide +kernel
theorem dX7_dropFirst_23 : decode cX7_dropFirst 23 = .ok (.isub, 1) := by decide +kernel
theorem dX7_dropFirst_24 : decode cX7_dropFirst 24 = .ok (.aload_n 0, 1) := by decide +kernel
theorem dX7_dropFirst_25 : decode cX7_dropFirst 25 = .ok (.getfield 22, 3) := by decide +kernel
theorem dX7_dropFirst_28 : decode cX7_dropFirst 28 = .ok (.iload_n 1, 1) := by decide +kernel
theorem dX7_dropFirst_29 : decode cX7_dropFirst 29 = .ok (.invokestatic 37, 3) := by decide +kernel
theorem dX7_dropFirst_32 : decode cX7_dropFirst 32 = .ok (.invokestatic 41, 3) := by decide +kernel
theorem dX7_dropFirst_35 : decode cX7_dropFirst 35 = .ok (.iinc 1 1, 3) := by decide +kernel
theorem dX7_dropFirst_38 : decode cX7_dropFirst 38 = .ok (.goto (-33), 3) := by decide +kernel
theorem dX7_dropFirst_41 : decode cX7_dropFirst 41 = .ok (.aload_n 0, 1) := by decide +kernel
theorem dX7_dropFirst_42 : decode cX7_dropFirst 42 = .ok (.invokevirtual 45, 3) := by decide +kernel
theorem dX7_dropFirst_45 : decode cX7_dropFirst 45 = .ok (.return_, 1) := by decide +kernel
theorem dX7_dropLast_0 : decode cX7_dropLast 0 = .ok (.aload_n 0, 1) := by decide +kernel
theorem dX7_dropLast_1 : decode cX7_dropLast 1 = .ok (.getfield 26, 3) := by decide +kernel
theorem dX7_dropLast_4 : decode cX7_dropLast 4 = .ok (.ifCond .le 13, 3) := by decide +kernel
theorem dX7_dropLast_7 : decode cX7_dropLast 7 = .ok (.aload_n 0, 1) := by decide +kernel
theorem dX7_dropLast_8 : decode cX7_dropLast 8 = .ok (.dup, 1) := by decide +kernel
theorem dX7_dropLast_9 : decode cX7_dropLast 9 = .ok (.getfield 26, 3) := by decide +kernel
theorem dX7_dropLast_12 : decode cX7_dropLast 12 = .ok (.iconst 1, 1) := by decide +kernel
theorem dX7_dropLast_13 : decode cX7_dropLast 13 = .ok (.isub, 1) := by decide +kernel
theorem dX7_dropLast_14 : decode cX7_dropLast 14 = .ok (.putfield 26, 3) := by decide +kernel
theorem dX7_dropLast_17 : decode cX7_dropLast 17 = .ok (.return_, 1) := by decide +kernel
theorem dX7_empty_0 : decode cX7_empty 0 = .ok (.aload_n 0, 1) := by decide +kernel
theorem dX7_empty_1 : decode cX7_empty 1 = .ok (.iconst 0, 1) := by decide +kernel
theorem dX7_empty_2 : decode cX7_empty 2 = .ok (.putfield 26, 3) := by decide +kernel
theorem dX7_empty_5 : decode cX7_empty 5 = .ok (.return_, 1) := by decide +kernel
set_option maxRecDepth 20000 in
theorem ggX7_copyFrom_X11_cell : GoodIn wsX7_copyFrom wsX11_cell := goodIn_r _ [11] (by decide +kernel) (by decide +kernel)
set_option maxRecDepth 20000 in
theorem gX7_copyFrom_X11_cell_n37 : GoodIn wsX7_copyFrom (wsX11_cell) := ggX7_copyFrom_X11_cell
set_option maxRecDepth 20000 in
theorem ggX7_copyFrom_X11_setCell : GoodIn wsX7_copyFrom wsX11_setCell := goodIn_r _ [13] (by decide +kernel) (by decide +kernel)
set_option maxRecDepth 20000 in
theorem gX7_copyFrom_X11_setCell_n41 : GoodIn wsX7_copyFrom (wsX11_setCell) := ggX7_copyFrom_X11_setCell
theorem dX7_copyFrom_0 : decode cX7_copyFrom 0 = .ok (.aload_n 0, 1) := by decide +kernel
theorem dX7_copyFrom_1 : decode cX7_copyFrom 1 = .ok (.aload_n 1, 1) := by decide +kernel
theorem dX7_copyFrom_2 : decode cX7_copyFrom 2 = .ok (.getfield 26, 3) := by decide +kernel
theorem dX7_copyFrom_5 : decode cX7_copyFrom 5 = .ok (.aload_n 0, 1) := by decide +kernel
theorem dX7_copyFrom_6 : decode cX7_copyFrom 6 = .ok (.getfield 13, 3) := by decide +kernel
theorem dX7_copyFrom_9 : decode cX7_copyFrom 9 = .ok (.invokestatic 48, 3) := by decide +kernel
theorem dX7_copyFrom_12 : decode cX7_copyFrom 12 = .ok (.putfield 26, 3) := by decide +kernel
theorem dX7_copyFrom_15 : decode cX7_copyFrom 15 = .ok (.iconst 0, 1) := by decide +kernel
theorem dX7_copyFrom_16 : decode cX7_copyFrom 16 = .ok (.istore_n 2, 1) := by decide +kernel
theorem dX7_copyFrom_17 : decode cX7_copyFrom 17 = .ok (.iload_n 2, 1) := by decide +kernel
theorem dX7_copyFrom_18 : decode cX7_copyFrom 18 = .ok (.aload_n 0, 1) := by decide +kernel
theorem dX7_copyFrom_19 : decode cX7_copyFrom 19 = .ok (.getfield 26, 3) := by decide +kernel
theorem dX7_copyFrom_22 : decode cX7_copyFrom 22 = .ok (.aload_n 0, 1) := by decide +kernel
theorem dX7_copyFrom_23 : decode cX7_copyFrom 23 = .ok (.getfield 19, 3) := by decide +kernel
theorem dX7_copyFrom_26 : decode cX7_copyFrom 26 = .ok (.imul, 1) := by decide +kernel
theorem dX7_copyFrom_27 : decode cX7_copyFrom 27 = .ok (.if_icmp .ge 25, 3) := by decide +kernel
theorem dX7_copyFrom_30 : decode cX7_copyFrom 30 = .ok (.aload_n 0, 1) := by decide +kernel
theorem dX7_copyFrom_31 : decode cX7_copyFrom 31 = .ok (.getfield 22, 3) := by decide +kernel
theorem dX7_copyFrom_34 : decode cX7_copyFrom 34 = .ok (.iload_n 2, 1) := by decide +kernel
theorem dX7_copyFrom_35 : decode cX7_copyFrom 35 = .ok (.aload_n 1, 1) := by decide +kernel
theorem dX7_copyFrom_36 : decode cX7_copyFrom 36 = .ok (.getfield 22, 3) := by decide +kernel
theorem dX7_copyFrom_39 : decode cX7_copyFrom 39 = .ok (.iload_n 2, 1) := by decide +kernel
theorem dX7_copyFrom_40 : decode cX7_copyFrom 40 = .ok (.invokestatic 37, 3) := by decide +kernel
theorem dX7_copyFrom_43 : decode cX7_copyFrom 43 = .ok (.invokestatic 41, 3) := by decide +kernel
theorem dX7_copyFrom_46 : decode cX7_copyFrom 46 = .ok (.iinc 2 1, 3) := by decide +kernel
theorem dX7_copyFrom_49 : decode cX7_copyFrom 49 = .ok (.goto (-32), 3) := by decide +kernel
theorem dX7_copyFrom_52 : decode cX7_copyFrom 52 = .ok (.return_, 1) := by decide +kernel
set_option maxRecDepth 20000 in
theorem ggX7_sum_X7_get : GoodIn wsX7_sum wsX7_get := goodIn_r _ [6, 1, 7, 8, 9, 10, 11, 12] (by decide +kernel) (by decide +kernel)
set_option maxRecDepth 20000 in
theorem gX7_sum_X7_get : GoodIn wsX7_sum (wsV RX7 54 RX7 yX7_get wsX7_get) := goodIn_app (goodIn_of _ (by decide +kernel)) ggX7_sum_X7_get
theorem dX7_sum_0 : decode cX7_sum 0 = .ok (.iconst 0, 1) := by decide +kernel
theorem dX7_sum_1 : decode cX7_sum 1 = .ok (.istore_n 2, 1) := by decide +kernel
theorem dX7_sum_2 : decode cX7_sum 2 = .ok (.iconst 0, 1) := by decide +kernel
theorem dX7_sum_3 : decode cX7_sum 3 = .ok (.istore_n 3, 1) := by decide +kernel
theorem dX7_sum_4 : decode cX7_sum 4 = .ok (.iload_n 3, 1) := by decide +kernel
theorem dX7_sum_5 : decode cX7_sum 5 = .ok (.aload_n 0, 1) := by decide +kernel
theorem dX7_sum_6 : decode cX7_sum 6 = .ok (.getfield 26, 3) := by decide +kernel
theorem dX7_sum_9 : decode cX7_sum 9 = .ok (.if_icmp .ge 18, 3) := by decide +kernel
theorem dX7_sum_12 : decode cX7_sum 12 = .ok (.iload_n 2, 1) := by decide +kernel
theorem dX7_sum_13 : decode cX7_sum 13 = .ok (.aload_n 0, 1) := by decide +kernel
theorem dX7_sum_14 : decode cX7_sum 14 = .ok (.iload_n 3, 1) := by decide +kernel
theorem dX7_sum_15 : decode cX7_sum 15 = .ok (.iload_n 1, 1) := by decide +kernel
theorem dX7_sum_16 : decode cX7_sum 16 = .ok (.invokevirtual 54, 3) := by decide +kernel
theorem dX7_sum_19 : decode cX7_sum 19 = .ok (.iadd, 1) := by decide +kernel
theorem dX7_sum_20 : decode cX7_sum 20 = .ok (.istore_n 2, 1) := by decide +kernel
theorem dX7_sum_21 : decode cX7_sum 21 = .ok (.iinc 3 1, 3) := by decide +kernel
theorem dX7_sum_24 : decode cX7_sum 24 = .ok (.goto (-20), 3) := by decide +kernel
theorem dX7_sum_27 : decode cX7_sum 27 = .ok (.iload_n 2, 1) := by decide +kernel
theorem dX7_sum_28 : decode cX7_sum 28 = .ok (.ireturn, 1) := by decide +kernel
set_option maxRecDepth 20000 in
theorem ggX7_digestOn_X11_cell : GoodIn wsX7_digestOn wsX11_cell := goodIn_r _ [7] (by decide +kernel) (by decide +kernel)
set_option maxRecDepth 20000 in
theorem gX7_digestOn_X11_cell_n37 : GoodIn wsX7_digestOn (wsX11_cell) := ggX7_digestOn_X11_cell
theorem dX7_digestOn_0 : decode cX7_digestOn 0 = .ok (.lload_n 1, 1) := by decide +kernel
theorem dX7_digestOn_1 : decode cX7_digestOn 1 = .ok (.lstore_n 3, 1) := by decide +kernel
theorem dX7_digestOn_2 : decode cX7_digestOn 2 = .ok (.iconst 0, 1) := by decide +kernel
theorem dX7_digestOn_3 : decode cX7_digestOn 3 = .ok (.istore 5, 2) := by decide +kernel
theorem dX7_digestOn_5 : decode cX7_digestOn 5 = .ok (.iload 5, 2) := by decide +kernel
theorem dX7_digestOn_7 : decode cX7_digestOn 7 = .ok (.aload_n 0, 1) := by decide +kernel
theorem dX7_digestOn_8 : decode cX7_digestOn 8 = .ok (.getfield 26, 3) := by decide +kernel
theorem dX7_digestOn_11 : decode cX7_digestOn 11 = .ok (.aload_n 0, 1) := by decide +kernel
theorem dX7_digestOn_12 : decode cX7_digestOn 12 = .ok (.getfield 19, 3) := by decide +kernel
theorem dX7_digestOn_15 : decode cX7_digestOn 15 = .ok (.imul, 1) := by decide +kernel
theorem dX7_digestOn_16 : decode cX7_digestOn 16 = .ok (.if_icmp .ge 26, 3) := by decide +kernel
theorem dX7_digestOn_19 : decode cX7_digestOn 19 = .ok (.ldc2_w 57, 3) := by decide +kernel
theorem dX7_digestOn_22 : decode cX7_digestOn 22 = .ok (.lload_n 3, 1) := by decide +kernel
theorem dX7_digestOn_23 : decode cX7_digestOn 23 = .ok (.lmul, 1) := by decide +kernel
theorem dX7_digestOn_24 : decode cX7_digestOn 24 = .ok (.aload_n 0, 1) := by decide +kernel
theorem dX7_digestOn_25 : decode cX7_digestOn 25 = .ok (.getfield 22, 3) := by decide +kernel
theorem dX7_digestOn_28 : decode cX7_digestOn 28 = .ok (.iload 5, 2) := by decide +kernel
theorem dX7_digestOn_30 : decode cX7_digestOn 30 = .ok (.invokestatic 37, 3) := by decide +kernel
theorem dX7_digestOn_33 : decode cX7_digestOn 33 = .ok (.i2l, 1) := by decide +kernel
theorem dX7_digestOn_34 : decode cX7_digestOn 34 = .ok (.ladd, 1) := by decide +kernel
theorem dX7_digestOn_35 : decode cX7_digestOn 35 = .ok (.lstore_n 3, 1) := by decide +kernel
theorem dX7_digestOn_36 : decode cX7_digestOn 36 = .ok (.iinc 5 1, 3) := by decide +kernel
theorem dX7_digestOn_39 : decode cX7_digestOn 39 = .ok (.goto (-34), 3) := by decide +kernel
theorem dX7_digestOn_42 : decode cX7_digestOn 42 = .ok (.lload_n 3, 1) := by decide +kernel
theorem dX7_digestOn_43 : decode cX7_digestOn 43 = .ok (.lreturn, 1) := by decide +kernel
theorem dX8_init_0 : decode cX8_init 0 = .ok (.aload_n 0, 1) := by decide +kernel
theorem dX8_init_1 : decode cX8_init 1 = .ok (.invokespecial 3, 3) := by decide +kernel
theorem dX8_init_4 : decode cX8_init 4 = .ok (.aload_n 0, 1) := by decide +kernel
theorem dX8_init_5 : decode cX8_init 5 = .ok (.bipush 7, 2) := by decide +kernel
theorem dX8_init_7 : decode cX8_init 7 = .ok (.newarray .int, 2) := by decide +kernel
theorem dX8_init_9 : decode cX8_init 9 = .ok (.putfield 9, 3) := by decide +kernel
theorem dX8_init_12 : decode cX8_init 12 = .ok (.aload_n 0, 1) := by decide +kernel
theorem dX8_init_13 : decode cX8_init 13 = .ok (.bipush 7, 2) := by decide +kernel
theorem dX8_init_15 : decode cX8_init 15 = .ok (.newarray .int, 2) := by decide +kernel
theorem dX8_init_17 : decode cX8_init 17 = .ok (.putfield 15, 3) := by decide +kernel
theorem dX8_init_20 : decode cX8_init 20 = .ok (.aload_n 0, 1) := by decide +kernel
theorem dX8_init_21 : decode cX8_init 21 = .ok (.sipush 128, 3) := by decide +kernel
theorem dX8_init_24 : decode cX8_init 24 = .ok (.newarray .int, 2) := by decide +kernel
theorem dX8_init_26 : decode cX8_init 26 = .ok (.putfield 18, 3) := by decide +kernel
theorem dX8_init_29 : decode cX8_init 29 = .ok (.aload_n 0, 1) := by decide +kernel
theorem dX8_init_30 : decode cX8_init 30 = .ok (.sipush 128, 3) := by decide +kernel
theorem dX8_init_33 : decode cX8_init 33 = .ok (.newarray .int, 2) := by decide +kernel
theorem dX8_init_35 : decode cX8_init 35 = .ok (.putfield 21, 3) := by decide +kernel
theorem dX8_init_38 : decode cX8_init 38 = .ok (.return_, 1) := by decide +kernel
set_option maxRecDepth 20000 in
theorem ggX8_fewest_X8_countParties : GoodIn wsX8_fewest wsX8_countParties := goodIn_r _ [8, 1, 9, 10, 11, 12, 13, 14, 15, 16, 17, 18, 19, 20, 21, 22, 23, 24, 25, 26, 27, 28, 29, 30, 31, 32, 33, 34, 35, 36, 37, 38, 39, 40, 41, 56, 57, 58, 59, 60, 61, 62, 63] (by decide +kernel) (by decide +kernel)
set_option maxRecDepth 20000 in
theorem gX8_fewest_X8_countParties : GoodIn wsX8_fewest (wsV RX8 24 RX8 yX8_countParties wsX8_countParties) := goodIn_app (goodIn_of _ (by decide +kernel)) ggX8_fewest_X8_countParties
set_option maxRecDepth 20000 in
theorem ggX8_fewest_X11_cell : GoodIn wsX8_fewest wsX11_cell := goodIn_r _ [43] (by decide +kernel) (by decide +kernel)
set_option maxRecDepth 20000 in
theorem gX8_fewest_X11_cell_n28 : GoodIn wsX8_fewest (wsX11_cell) := ggX8_fewest_X11_cell
set_option maxRecDepth 20000 in
theorem ggX8_fewest_J6_numberOfLeadingZeros_0f7a4 : GoodIn wsX8_fewest wsJ6_numberOfLeadingZeros_0f7a4 := goodIn_r _ [46, 47] (by decide +kernel) (by decide +kernel)
set_option maxRecDepth 20000 in
theorem gX8_fewest_J6_numberOfLeadingZeros_0f7a4 : GoodIn wsX8_fewest (va_wsS RX8 32 yJ6_numberOfLeadingZeros_0f7a4 wsJ6_numberOfLeadingZeros_0f7a4) := goodIn_app (goodIn_of _ (by decide +kernel)) ggX8_fewest_J6_numberOfLeadingZeros_0f7a4
set_option maxRecDepth 20000 in
theorem ggX8_fewest_X11_setCell : GoodIn wsX8_fewest wsX11_setCell := goodIn_r _ [41] (by decide +kernel) (by decide +kernel)
set_option maxRecDepth 20000 in
theorem gX8_fewest_X11_setCell_n38 : GoodIn wsX8_fewest (wsX11_setCell) := ggX8_fewest_X11_setCell
set_option maxRecDepth 20000 in
theorem ggX8_fewest_X8_tablesFor : GoodIn wsX8_fewest wsX8_tablesFor := goodIn_r _ [51, 2, 3, 52, 53, 54, 55, 42, 29, 43, 56, 57, 58, 59] (by decide +kernel) (by decide +kernel)
set_option maxRecDepth 20000 in
theorem gX8_fewest_X8_tablesFor : GoodIn wsX8_fewest (wsV RX8 42 RX8 yX8_tablesFor wsX8_tablesFor) := goodIn_app (goodIn_of _ (by decide +kernel)) ggX8_fewest_X8_tablesFor
theorem dX8_fewest_0 : decode cX8_fewest 0 = .ok (.aload_n 0, 1) := by decide +kernel
theorem dX8_fewest_1 : decode cX8_fewest 1 = .ok (.aload_n 1, 1) := by decide +kernel
theorem dX8_fewest_2 : decode cX8_fewest 2 = .ok (.invokevirtual 24, 3) := by decide +kernel
theorem dX8_fewest_5 : decode cX8_fewest 5 = .ok (.istore_n 3, 1) := by decide +kernel
theorem dX8_fewest_6 : decode cX8_fewest 6 = .ok (.iconst 1, 1) := by decide +kernel
theorem dX8_fewest_7 : decode cX8_fewest 7 = .ok (.iload_n 3, 1) := by decide +kernel
theorem dX8_fewest_8 : decode cX8_fewest 8 = .ok (.ishl, 1) := by decide +kernel
theorem dX8_fewest_9 : decode cX8_fewest 9 = .ok (.iconst 1, 1) := by decide +kernel
theorem dX8_fewest_10 : decode cX8_fewest 10 = .ok (.isub, 1) := by decide +kernel
theorem dX8_fewest_11 : decode cX8_fewest 11 = .ok (.istore 4, 2) := by decide +kernel
theorem dX8_fewest_13 : decode cX8_fewest 13 = .ok (.iconst 0, 1) := by decide +kernel
theorem dX8_fewest_14 : decode cX8_fewest 14 = .ok (.istore 5, 2) := by decide +kernel
theorem dX8_fewest_16 : decode cX8_fewest 16 = .ok (.iload 5, 2) := by decide +kernel
theorem dX8_fewest_18 : decode cX8_fewest 18 = .ok (.iload_n 3, 1) := by decide +kernel
theorem dX8_fewest_19 : decode cX8_fewest 19 = .ok (.if_icmp .ge 24, 3) := by decide +kernel
theorem dX8_fewest_22 : decode cX8_fewest 22 = .ok (.aload_n 0, 1) := by decide +kernel
theorem dX8_fewest_23 : decode cX8_fewest 23 = .ok (.getfield 9, 3) := by decide +kernel
theorem dX8_fewest_26 : decode cX8_fewest 26 = .ok (.iload 5, 2) := by decide +kernel
theorem dX8_fewest_28 : decode cX8_fewest 28 = .ok (.invokestatic 28, 3) := by decide +kernel
theorem dX8_fewest_31 : decode cX8_fewest 31 = .ok (.iload_n 2, 1) := by decide +kernel
theorem dX8_fewest_32 : decode cX8_fewest 32 = .ok (.if_icmp .le 5, 3) := by decide +kernel
theorem dX8_fewest_35 : decode cX8_fewest 35 = .ok (.iconst (-1), 1) := by decide +kernel
theorem dX8_fewest_36 : decode cX8_fewest 36 = .ok (.ireturn, 1) := by decide +kernel
theorem dX8_fewest_37 : decode cX8_fewest 37 = .ok (.iinc 5 1, 3) := by decide +kernel
theorem dX8_fewest_40 : decode cX8_fewest 40 = .ok (.goto (-24), 3) := by decide +kernel
theorem dX8_fewest_43 : decode cX8_fewest 43 = .ok (.iconst 1, 1) := by decide +kernel
theorem dX8_fewest_44 : decode cX8_fewest 44 = .ok (.istore 5, 2) := by decide +kernel
theorem dX8_fewest_46 : decode cX8_fewest 46 = .ok (.iload 5, 2) := by decide +kernel
theorem dX8_fewest_48 : decode cX8_fewest 48 = .ok (.iload 4, 2) := by decide +kernel
theorem dX8_fewest_50 : decode cX8_fewest 50 = .ok (.if_icmp .gt 70, 3) := by decide +kernel
theorem dX8_fewest_53 : decode cX8_fewest 53 = .ok (.bipush 31, 2) := by decide +kernel
theorem dX8_fewest_55 : decode cX8_fewest 55 = .ok (.iload 5, 2) := by decide +kernel
theorem dX8_fewest_57 : decode cX8_fewest 57 = .ok (.invokestatic 32, 3) := by decide +kernel
theorem dX8_fewest_60 : decode cX8_fewest 60 = .ok (.isub, 1) := by decide +kernel
theorem dX8_fewest_61 : decode cX8_fewest 61 = .ok (.istore 6, 2) := by decide +kernel
theorem dX8_fewest_63 : decode cX8_fewest 63 = .ok (.aload_n 0, 1) := by decide +kernel
theorem dX8_fewest_64 : decode cX8_fewest 64 = .ok (.getfield 18, 3) := by decide +kernel
theorem dX8_fewest_67 : decode cX8_fewest 67 = .ok (.iload 5, 2) := by decide +kernel
theorem dX8_fewest_69 : decode cX8_fewest 69 = .ok (.aload_n 0, 1) := by decide +kernel
theorem dX8_fewest_70 : decode cX8_fewest 70 = .ok (.getfield 18, 3) := by decide +kernel
theorem dX8_fewest_73 : decode cX8_fewest 73 = .ok (.iload 5, 2) := by decide +kernel
theorem dX8_fewest_75 : decode cX8_fewest 75 = .ok (.iconst 1, 1) := by decide +kernel
theorem dX8_fewest_76 : decode cX8_fewest 76 = .ok (.iload 6, 2) := by decide +kernel
theorem dX8_fewest_78 : decode cX8_fewest 78 = .ok (.ishl, 1) := by decide +kernel
theorem dX8_fewest_79 : decode cX8_fewest 79 = .ok (.iconst (-1), 1) := by decide +kernel
theorem dX8_fewest_80 : decode cX8_fewest 80 = .ok (.ixor, 1) := by decide +kernel
theorem dX8_fewest_81 : decode cX8_fewest 81 = .ok (.iand, 1) := by decide +kernel
theorem dX8_fewest_82 : decode cX8_fewest 82 = .ok (.invokestatic 28, 3) := by decide +kernel
theorem dX8_fewest_85 : decode cX8_fewest 85 = .ok (.aload_n 0, 1) := by decide +kernel
theorem dX8_fewest_86 : decode cX8_fewest 86 = .ok (.getfield 9, 3) := by decide +kernel
theorem dX8_fewest_89 : decode cX8_fewest 89 = .ok (.iload 6, 2) := by decide +kernel
theorem dX8_fewest_91 : decode cX8_fewest 91 = .ok (.invokestatic 28, 3) := by decide +kernel
theorem dX8_fewest_94 : decode cX8_fewest 94 = .ok (.iadd, 1) := by decide +kernel
theorem dX8_fewest_95 : decode cX8_fewest 95 = .ok (.invokestatic 38, 3) := by decide +kernel
theorem dX8_fewest_98 : decode cX8_fewest 98 = .ok (.aload_n 0, 1) := by decide +kernel
theorem dX8_fewest_99 : decode cX8_fewest 99 = .ok (.getfield 21, 3) := by decide +kernel
theorem dX8_fewest_102 : decode cX8_fewest 102 = .ok (.iload 5, 2) := by decide +kernel
theorem dX8_fewest_104 : decode cX8_fewest 104 = .ok (.aload_n 0, 1) := by decide +kernel
theorem dX8_fewest_105 : decode cX8_fewest 105 = .ok (.iload 5, 2) := by decide +kernel
theorem dX8_fewest_107 : decode cX8_fewest 107 = .ok (.iload_n 2, 1) := by decide +kernel
theorem dX8_fewest_108 : decode cX8_fewest 108 = .ok (.invokevirtual 42, 3) := by decide +kernel
theorem dX8_fewest_111 : decode cX8_fewest 111 = .ok (.invokestatic 38, 3) := by decide +kernel
theorem dX8_fewest_114 : decode cX8_fewest 114 = .ok (.iinc 5 1, 3) := by decide +kernel
theorem dX8_fewest_117 : decode cX8_fewest 117 = .ok (.goto (-71), 3) := by decide +kernel
theorem dX8_fewest_120 : decode cX8_fewest 120 = .ok (.aload_n 0, 1) := by decide +kernel
theorem dX8_fewest_121 : decode cX8_fewest 121 = .ok (.getfield 21, 3) := by decide +kernel
theorem dX8_fewest_124 : decode cX8_fewest 124 = .ok (.iload 4, 2) := by decide +kernel
theorem dX8_fewest_126 : decode cX8_fewest 126 = .ok (.invokestatic 28, 3) := by decide +kernel
theorem dX8_fewest_129 : decode cX8_fewest 129 = .ok (.ireturn, 1) := by decide +kernel
set_option maxRecDepth 20000 in
theorem ggX8_countParties_X7_size : GoodIn wsX8_countParties wsX7_size := goodIn_r _ [6, 7, 39, 40, 41, 42] (by decide +kernel) (by decide +kernel)
set_option maxRecDepth 20000 in
theorem gX8_countParties_X7_size : GoodIn wsX8_countParties (wsV RX8 46 RX7 yX7_size wsX7_size) := goodIn_app (goodIn_of _ (by decide +kernel)) ggX8_countParties_X7_size
set_option maxRecDepth 20000 in
theorem ggX8_countParties_X7_get : GoodIn wsX8_countParties wsX7_get := goodIn_r _ [11, 7, 12, 13, 39, 40, 41, 42] (by decide +kernel) (by decide +kernel)
set_option maxRecDepth 20000 in
theorem gX8_countParties_X7_get : GoodIn wsX8_countParties (wsV RX8 52 RX7 yX7_get wsX7_get) := goodIn_app (goodIn_of _ (by decide +kernel)) ggX8_countParties_X7_get
set_option maxRecDepth 20000 in
theorem ggX8_countParties_X0_members : GoodIn wsX8_countParties wsX0_members := goodIn_r _ [17, 18, 19, 16, 20, 21, 22, 23, 24, 9, 10, 5, 11, 7, 12, 13, 25, 3, 4, 6, 39, 40, 41, 42] (by decide +kernel) (by decide +kernel)
set_option maxRecDepth 20000 in
theorem gX8_countParties_X0_members : GoodIn wsX8_countParties (va_wsS RX8 55 yX0_members wsX0_members) := goodIn_app (goodIn_of _ (by decide +kernel)) ggX8_countParties_X0_members
set_option maxRecDepth 20000 in
theorem ggX8_countParties_J6_bitCount_0f7a4 : GoodIn wsX8_countParties wsJ6_bitCount_0f7a4 := goodIn_r _ [29, 30, 31, 32] (by decide +kernel) (by decide +kernel)
set_option maxRecDepth 20000 in
theorem gX8_countParties_J6_bitCount_0f7a4 : GoodIn wsX8_countParties (va_wsS RX8 61 yJ6_bitCount_0f7a4 wsJ6_bitCount_0f7a4) := goodIn_app (goodIn_of _ (by decide +kernel)) ggX8_countParties_J6_bitCount_0f7a4
set_option maxRecDepth 20000 in
theorem ggX8_countParties_X11_setCell : GoodIn wsX8_countParties wsX11_setCell := goodIn_r _ [34] (by decide +kernel) (by decide +kernel)
set_option maxRecDepth 20000 in
theorem gX8_countParties_X11_setCell_n38 : GoodIn wsX8_countParties (wsX11_setCell) := ggX8_countParties_X11_setCell
theorem dX8_countParties_0 : decode cX8_countParties 0 = .ok (.iconst 0, 1) := by decide +kernel
theorem dX8_countParties_1 : decode cX8_countParties 1 = .ok (.istore_n 2, 1) := by decide +kernel
theorem dX8_countParties_2 : decode cX8_countParties 2 = .ok (.iconst 0, 1) := by decide +kernel
theorem dX8_countParties_3 : decode cX8_countParties 3 = .ok (.istore_n 3, 1) := by decide +kernel
theorem dX8_countParties_4 : decode cX8_countParties 4 = .ok (.iload_n 3, 1) := by decide +kernel
theorem dX8_countParties_5 : decode cX8_countParties 5 = .ok (.aload_n 1, 1) := by decide +kernel
theorem dX8_countParties_6 : decode cX8_countParties 6 = .ok (.invokevirtual 46, 3) := by decide +kernel
theorem dX8_countParties_9 : decode cX8_countParties 9 = .ok (.if_icmp .ge 38, 3) := by decide +kernel
theorem dX8_countParties_12 : decode cX8_countParties 12 = .ok (.aload_n 1, 1) := by decide +kernel
theorem dX8_countParties_13 : decode cX8_countParties 13 = .ok (.iload_n 3, 1) := by decide +kernel
theorem dX8_countParties_14 : decode cX8_countParties 14 = .ok (.iconst 4, 1) := by decide +kernel
theorem dX8_countParties_15 : decode cX8_countParties 15 = .ok (.invokevirtual 52, 3) := by decide +kernel
theorem dX8_countParties_18 : decode cX8_countParties 18 = .ok (.iconst (-1), 1) := by decide +kernel
theorem dX8_countParties_19 : decode cX8_countParties 19 = .ok (.if_icmp .ne 22, 3) := by decide +kernel
theorem dX8_countParties_22 : decode cX8_countParties 22 = .ok (.aload_n 0, 1) := by decide +kernel
theorem dX8_countParties_23 : decode cX8_countParties 23 = .ok (.getfield 9, 3) := by decide +kernel
theorem dX8_countParties_26 : decode cX8_countParties 26 = .ok (.iload_n 2, 1) := by decide +kernel
theorem dX8_countParties_27 : decode cX8_countParties 27 = .ok (.aload_n 1, 1) := by decide +kernel
theorem dX8_countParties_28 : decode cX8_countParties 28 = .ok (.iload_n 3, 1) := by decide +kernel
theorem dX8_countParties_29 : decode cX8_countParties 29 = .ok (.invokestatic 55, 3) := by decide +kernel
theorem dX8_countParties_32 : decode cX8_countParties 32 = .ok (.invokestatic 61, 3) := by decide +kernel
theorem dX8_countParties_35 : decode cX8_countParties 35 = .ok (.invokestatic 38, 3) := by decide +kernel
theorem dX8_countParties_38 : decode cX8_countParties 38 = .ok (.iinc 2 1, 3) := by decide +kernel
theorem dX8_countParties_41 : decode cX8_countParties 41 = .ok (.iinc 3 1, 3) := by decide +kernel
theorem dX8_countParties_44 : decode cX8_countParties 44 = .ok (.goto (-40), 3) := by decide +kernel
theorem dX8_countParties_47 : decode cX8_countParties 47 = .ok (.iload_n 2, 1) := by decide +kernel
theorem dX8_countParties_48 : decode cX8_countParties 48 = .ok (.ireturn, 1) := by decide +kernel
set_option maxRecDepth 20000 in
theorem ggX8_tablesFor_X11_cell : GoodIn wsX8_tablesFor wsX11_cell := goodIn_r _ [9] (by decide +kernel) (by decide +kernel)
set_option maxRecDepth 20000 in
theorem gX8_tablesFor_X11_cell_n28 : GoodIn wsX8_tablesFor (wsX11_cell) := ggX8_tablesFor_X11_cell
theorem dX8_tablesFor_0 : decode cX8_tablesFor 0 = .ok (.bipush 7, 2) := by decide +kernel
theorem dX8_tablesFor_2 : decode cX8_tablesFor 2 = .ok (.istore_n 3, 1) := by decide +kernel
theorem dX8_tablesFor_3 : decode cX8_tablesFor 3 = .ok (.iconst 1, 1) := by decide +kernel
theorem dX8_tablesFor_4 : decode cX8_tablesFor 4 = .ok (.istore 4, 2) := by decide +kernel
theorem dX8_tablesFor_6 : decode cX8_tablesFor 6 = .ok (.iload 4, 2) := by decide +kernel
theorem dX8_tablesFor_8 : decode cX8_tablesFor 8 = .ok (.iload_n 1, 1) := by decide +kernel
theorem dX8_tablesFor_9 : decode cX8_tablesFor 9 = .ok (.if_icmp .gt 51, 3) := by decide +kernel
theorem dX8_tablesFor_12 : decode cX8_tablesFor 12 = .ok (.iload 4, 2) := by decide +kernel
theorem dX8_tablesFor_14 : decode cX8_tablesFor 14 = .ok (.iload_n 1, 1) := by decide +kernel
theorem dX8_tablesFor_15 : decode cX8_tablesFor 15 = .ok (.iand, 1) := by decide +kernel
theorem dX8_tablesFor_16 : decode cX8_tablesFor 16 = .ok (.iload 4, 2) := by decide +kernel
theorem dX8_tablesFor_18 : decode cX8_tablesFor 18 = .ok (.if_icmp .ne 36, 3) := by decide +kernel
theorem dX8_tablesFor_21 : decode cX8_tablesFor 21 = .ok (.aload_n 0, 1) := by decide +kernel
theorem dX8_tablesFor_22 : decode cX8_tablesFor 22 = .ok (.getfield 18, 3) := by decide +kernel
theorem dX8_tablesFor_25 : decode cX8_tablesFor 25 = .ok (.iload 4, 2) := by decide +kernel
theorem dX8_tablesFor_27 : decode cX8_tablesFor 27 = .ok (.invokestatic 28, 3) := by decide +kernel
theorem dX8_tablesFor_30 : decode cX8_tablesFor 30 = .ok (.iload_n 2, 1) := by decide +kernel
theorem dX8_tablesFor_31 : decode cX8_tablesFor 31 = .ok (.if_icmp .gt 23, 3) := by decide +kernel
theorem dX8_tablesFor_34 : decode cX8_tablesFor 34 = .ok (.iload_n 3, 1) := by decide +kernel
theorem dX8_tablesFor_35 : decode cX8_tablesFor 35 = .ok (.iconst 1, 1) := by decide +kernel
theorem dX8_tablesFor_36 : decode cX8_tablesFor 36 = .ok (.aload_n 0, 1) := by decide +kernel
theorem dX8_tablesFor_37 : decode cX8_tablesFor 37 = .ok (.getfield 21, 3) := by decide +kernel
theorem dX8_tablesFor_40 : decode cX8_tablesFor 40 = .ok (.iload_n 1, 1) := by decide +kernel
theorem dX8_tablesFor_41 : decode cX8_tablesFor 41 = .ok (.iload 4, 2) := by decide +kernel
theorem dX8_tablesFor_43 : decode cX8_tablesFor 43 = .ok (.iconst (-1), 1) := by decide +kernel
theorem dX8_tablesFor_44 : decode cX8_tablesFor 44 = .ok (.ixor, 1) := by decide +kernel
theorem dX8_tablesFor_45 : decode cX8_tablesFor 45 = .ok (.iand, 1) := by decide +kernel
theorem dX8_tablesFor_46 : decode cX8_tablesFor 46 = .ok (.invokestatic 28, 3) := by decide +kernel
theorem dX8_tablesFor_49 : decode cX8_tablesFor 49 = .ok (.iadd, 1) := by decide +kernel
theorem dX8_tablesFor_50 : decode cX8_tablesFor 50 = .ok (.invokestatic 64, 3) := by decide +kernel
theorem dX8_tablesFor_53 : decode cX8_tablesFor 53 = .ok (.istore_n 3, 1) := by decide +kernel
theorem dX8_tablesFor_54 : decode cX8_tablesFor 54 = .ok (.iinc 4 1, 3) := by decide +kernel
theorem dX8_tablesFor_57 : decode cX8_tablesFor 57 = .ok (.goto (-51), 3) := by decide +kernel
theorem dX8_tablesFor_60 : decode cX8_tablesFor 60 = .ok (.iload_n 3, 1) := by decide +kernel
theorem dX8_tablesFor_61 : decode cX8_tablesFor 61 = .ok (.ireturn, 1) := by decide +kernel
set_option maxRecDepth 20000 in
theorem ggX8_fewestUnbent_X7_size : GoodIn wsX8_fewestUnbent wsX7_size := goodIn_r _ [5, 6, 38, 39, 40, 41] (by decide +kernel) (by decide +kernel)
set_option maxRecDepth 20000 in
theorem gX8_fewestUnbent_X7_size : GoodIn wsX8_fewestUnbent (wsV RX8 46 RX7 yX7_size wsX7_size) := goodIn_app (goodIn_of _ (by decide +kernel)) ggX8_fewestUnbent_X7_size
set_option maxRecDepth 20000 in
theorem ggX8_fewestUnbent_X7_get : GoodIn wsX8_fewestUnbent wsX7_get := goodIn_r _ [10, 6, 11, 12, 38, 39, 40, 41] (by decide +kernel) (by decide +kernel)
set_option maxRecDepth 20000 in
theorem gX8_fewestUnbent_X7_get : GoodIn wsX8_fewestUnbent (wsV RX8 52 RX7 yX7_get wsX7_get) := goodIn_app (goodIn_of _ (by decide +kernel)) ggX8_fewestUnbent_X7_get
set_option maxRecDepth 20000 in
theorem ggX8_fewestUnbent_J6_bitCount_0f7a4 : GoodIn wsX8_fewestUnbent wsJ6_bitCount_0f7a4 := goodIn_r _ [16, 17, 18, 19] (by decide +kernel) (by decide +kernel)
set_option maxRecDepth 20000 in
theorem gX8_fewestUnbent_J6_bitCount_0f7a4 : GoodIn wsX8_fewestUnbent (va_wsS RX8 61 yJ6_bitCount_0f7a4 wsJ6_bitCount_0f7a4) := goodIn_app (goodIn_of _ (by decide +kernel)) ggX8_fewestUnbent_J6_bitCount_0f7a4
set_option maxRecDepth 20000 in
theorem ggX8_fewestUnbent_X8_isLight : GoodIn wsX8_fewestUnbent wsX8_isLight := goodIn_r _ [24, 25, 26, 27, 28, 1, 2, 3, 4, 5, 6, 29, 30, 31, 32, 33, 34, 35, 8, 9, 10, 11, 12, 36, 37, 7, 42, 43, 44, 45, 38, 39, 40, 41] (by decide +kernel) (by decide +kernel)
set_option maxRecDepth 20000 in
theorem gX8_fewestUnbent_X8_isLight : GoodIn wsX8_fewestUnbent (wsV RX8 69 RX8 yX8_isLight wsX8_isLight) := goodIn_app (goodIn_of _ (by decide +kernel)) ggX8_fewestUnbent_X8_isLight
theorem dX8_fewestUnbent_0 : decode cX8_fewestUnbent 0 = .ok (.iconst (-1), 1) := by decide +kernel
theorem dX8_fewestUnbent_1 : decode cX8_fewestUnbent 1 = .ok (.istore_n 3, 1) := by decide +kernel
theorem dX8_fewestUnbent_2 : decode cX8_fewestUnbent 2 = .ok (.bipush 8, 2) := by decide +kernel
theorem dX8_fewestUnbent_4 : decode cX8_fewestUnbent 4 = .ok (.istore 4, 2) := by decide +kernel
theorem dX8_fewestUnbent_6 : decode cX8_fewestUnbent 6 = .ok (.iconst 0, 1) := by decide +kernel
theorem dX8_fewestUnbent_7 : decode cX8_fewestUnbent 7 = .ok (.istore 5, 2) := by decide +kernel
theorem dX8_fewestUnbent_9 : decode cX8_fewestUnbent 9 = .ok (.iconst 0, 1) := by decide +kernel
theorem dX8_fewestUnbent_10 : decode cX8_fewestUnbent 10 = .ok (.istore 6, 2) := by decide +kernel
theorem dX8_fewestUnbent_12 : decode cX8_fewestUnbent 12 = .ok (.iload 6, 2) := by decide +kernel
theorem dX8_fewestUnbent_14 : decode cX8_fewestUnbent 14 = .ok (.aload_n 1, 1) := by decide +kernel
theorem dX8_fewestUnbent_15 : decode cX8_fewestUnbent 15 = .ok (.invokevirtual 46, 3) := by decide +kernel
theorem dX8_fewestUnbent_18 : decode cX8_fewestUnbent 18 = .ok (.if_icmp .ge 33, 3) := by decide +kernel
theorem dX8_fewestUnbent_21 : decode cX8_fewestUnbent 21 = .ok (.iload 5, 2) := by decide +kernel
theorem dX8_fewestUnbent_23 : decode cX8_fewestUnbent 23 = .ok (.aload_n 1, 1) := by decide +kernel
theorem dX8_fewestUnbent_24 : decode cX8_fewestUnbent 24 = .ok (.iload 6, 2) := by decide +kernel
theorem dX8_fewestUnbent_26 : decode cX8_fewestUnbent 26 = .ok (.iconst 4, 1) := by decide +kernel
theorem dX8_fewestUnbent_27 : decode cX8_fewestUnbent 27 = .ok (.invokevirtual 52, 3) := by decide +kernel
theorem dX8_fewestUnbent_30 : decode cX8_fewestUnbent 30 = .ok (.iconst (-1), 1) := by decide +kernel
theorem dX8_fewestUnbent_31 : decode cX8_fewestUnbent 31 = .ok (.if_icmp .eq 10, 3) := by decide +kernel
theorem dX8_fewestUnbent_34 : decode cX8_fewestUnbent 34 = .ok (.iconst 1, 1) := by decide +kernel
theorem dX8_fewestUnbent_35 : decode cX8_fewestUnbent 35 = .ok (.iload 6, 2) := by decide +kernel
theorem dX8_fewestUnbent_37 : decode cX8_fewestUnbent 37 = .ok (.ishl, 1) := by decide +kernel
theorem dX8_fewestUnbent_38 : decode cX8_fewestUnbent 38 = .ok (.goto 4, 3) := by decide +kernel
theorem dX8_fewestUnbent_41 : decode cX8_fewestUnbent 41 = .ok (.iconst 0, 1) := by decide +kernel
theorem dX8_fewestUnbent_42 : decode cX8_fewestUnbent 42 = .ok (.ior, 1) := by decide +kernel
theorem dX8_fewestUnbent_43 : decode cX8_fewestUnbent 43 = .ok (.istore 5, 2) := by decide +kernel
theorem dX8_fewestUnbent_45 : decode cX8_fewestUnbent 45 = .ok (.iinc 6 1, 3) := by decide +kernel
theorem dX8_fewestUnbent_48 : decode cX8_fewestUnbent 48 = .ok (.goto (-36), 3) := by decide +kernel
theorem dX8_fewestUnbent_51 : decode cX8_fewestUnbent 51 = .ok (.iconst 0, 1) := by decide +kernel
theorem dX8_fewestUnbent_52 : decode cX8_fewestUnbent 52 = .ok (.istore 6, 2) := by decide +kernel
theorem dX8_fewestUnbent_54 : decode cX8_fewestUnbent 54 = .ok (.iload 6, 2) := by decide +kernel
theorem dX8_fewestUnbent_56 : decode cX8_fewestUnbent 56 = .ok (.iload 5, 2) := by decide +kernel
theorem dX8_fewestUnbent_58 : decode cX8_fewestUnbent 58 = .ok (.if_icmp .gt 62, 3) := by decide +kernel
theorem dX8_fewestUnbent_61 : decode cX8_fewestUnbent 61 = .ok (.iload 6, 2) := by decide +kernel
theorem dX8_fewestUnbent_63 : decode cX8_fewestUnbent 63 = .ok (.iload 5, 2) := by decide +kernel
theorem dX8_fewestUnbent_65 : decode cX8_fewestUnbent 65 = .ok (.iand, 1) := by decide +kernel
theorem dX8_fewestUnbent_66 : decode cX8_fewestUnbent 66 = .ok (.iload 6, 2) := by decide +kernel
theorem dX8_fewestUnbent_68 : decode cX8_fewestUnbent 68 = .ok (.if_icmp .ne 17, 3) := by decide +kernel
theorem dX8_fewestUnbent_71 : decode cX8_fewestUnbent 71 = .ok (.iload 6, 2) := by decide +kernel
theorem dX8_fewestUnbent_73 : decode cX8_fewestUnbent 73 = .ok (.invokestatic 61, 3) := by decide +kernel
theorem dX8_fewestUnbent_76 : decode cX8_fewestUnbent 76 = .ok (.iload 4, 2) := by decide +kernel
theorem dX8_fewestUnbent_78 : decode cX8_fewestUnbent 78 = .ok (.if_icmp .ge 7, 3) := by decide +kernel
theorem dX8_fewestUnbent_81 : decode cX8_fewestUnbent 81 = .ok (.iconst 1, 1) := by decide +kernel
theorem dX8_fewestUnbent_82 : decode cX8_fewestUnbent 82 = .ok (.goto 4, 3) := by decide +kernel
theorem dX8_fewestUnbent_85 : decode cX8_fewestUnbent 85 = .ok (.iconst 0, 1) := by decide +kernel
theorem dX8_fewestUnbent_86 : decode cX8_fewestUnbent 86 = .ok (.istore 7, 2) := by decide +kernel
theorem dX8_fewestUnbent_88 : decode cX8_fewestUnbent 88 = .ok (.iload 7, 2) := by decide +kernel
theorem dX8_fewestUnbent_90 : decode cX8_fewestUnbent 90 = .ok (.ifCond .eq 24, 3) := by decide +kernel
theorem dX8_fewestUnbent_93 : decode cX8_fewestUnbent 93 = .ok (.aload_n 0, 1) := by decide +kernel
theorem dX8_fewestUnbent_94 : decode cX8_fewestUnbent 94 = .ok (.aload_n 1, 1) := by decide +kernel
theorem dX8_fewestUnbent_95 : decode cX8_fewestUnbent 95 = .ok (.iload 6, 2) := by decide +kernel
theorem dX8_fewestUnbent_97 : decode cX8_fewestUnbent 97 = .ok (.iload_n 2, 1) := by decide +kernel
theorem dX8_fewestUnbent_98 : decode cX8_fewestUnbent 98 = .ok (.invokevirtual 69, 3) := by decide +kernel
theorem dX8_fewestUnbent_101 : decode cX8_fewestUnbent 101 = .ok (.ifCond .eq 13, 3) := by decide +kernel
theorem dX8_fewestUnbent_104 : decode cX8_fewestUnbent 104 = .ok (.iload 6, 2) := by decide +kernel
theorem dX8_fewestUnbent_106 : decode cX8_fewestUnbent 106 = .ok (.invokestatic 61, 3) := by decide +kernel
theorem dX8_fewestUnbent_109 : decode cX8_fewestUnbent 109 = .ok (.istore 4, 2) := by decide +kernel
theorem dX8_fewestUnbent_111 : decode cX8_fewestUnbent 111 = .ok (.iload 6, 2) := by decide +kernel
theorem dX8_fewestUnbent_113 : decode cX8_fewestUnbent 113 = .ok (.istore_n 3, 1) := by decide +kernel
theorem dX8_fewestUnbent_114 : decode cX8_fewestUnbent 114 = .ok (.iinc 6 1, 3) := by decide +kernel
theorem dX8_fewestUnbent_117 : decode cX8_fewestUnbent 117 = .ok (.goto (-63), 3) := by decide +kernel
theorem dX8_fewestUnbent_120 : decode cX8_fewestUnbent 120 = .ok (.iload_n 3, 1) := by decide +kernel
theorem dX8_fewestUnbent_121 : decode cX8_fewestUnbent 121 = .ok (.ireturn, 1) := by decide +kernel
set_option maxRecDepth 20000 in
theorem ggX8_isLight_X11_setCell : GoodIn wsX8_isLight wsX11_setCell := goodIn_r _ [4] (by decide +kernel) (by decide +kernel)
set_option maxRecDepth 20000 in
theorem gX8_isLight_X11_setCell_n38 : GoodIn wsX8_isLight (wsX11_setCell) := ggX8_isLight_X11_setCell
set_option maxRecDepth 20000 in
theorem ggX8_isLight_X7_size : GoodIn wsX8_isLight wsX7_size := goodIn_r _ [9, 10, 30, 31, 32, 33] (by decide +kernel) (by decide +kernel)
set_option maxRecDepth 20000 in
theorem gX8_isLight_X7_size : GoodIn wsX8_isLight (wsV RX8 46 RX7 yX7_size wsX7_size) := goodIn_app (goodIn_of _ (by decide +kernel)) ggX8_isLight_X7_size
set_option maxRecDepth 20000 in
theorem ggX8_isLight_X0_top : GoodIn wsX8_isLight wsX0_top := goodIn_r _ [14, 15, 3, 16, 17, 18, 19, 8, 20, 10, 21, 22, 30, 31, 32, 33] (by decide +kernel) (by decide +kernel)
set_option maxRecDepth 20000 in
theorem gX8_isLight_X0_top : GoodIn wsX8_isLight (va_wsS RX8 73 yX0_top wsX0_top) := goodIn_app (goodIn_of _ (by decide +kernel)) ggX8_isLight_X0_top
set_option maxRecDepth 20000 in
theorem ggX8_isLight_X11_cell : GoodIn wsX8_isLight wsX11_cell := goodIn_r _ [24] (by decide +kernel) (by decide +kernel)
set_option maxRecDepth 20000 in
theorem gX8_isLight_X11_cell_n28 : GoodIn wsX8_isLight (wsX11_cell) := ggX8_isLight_X11_cell
set_option maxRecDepth 20000 in
theorem ggX8_isLight_X7_get : GoodIn wsX8_isLight wsX7_get := goodIn_r _ [20, 10, 21, 22, 30, 31, 32, 33] (by decide +kernel) (by decide +kernel)
set_option maxRecDepth 20000 in
theorem gX8_isLight_X7_get : GoodIn wsX8_isLight (wsV RX8 52 RX7 yX7_get wsX7_get) := goodIn_app (goodIn_of _ (by decide +kernel)) ggX8_isLight_X7_get
theorem dX8_isLight_0 : decode cX8_isLight 0 = .ok (.iconst 0, 1) := by decide +kernel
theorem dX8_isLight_1 : decode cX8_isLight 1 = .ok (.istore 4, 2) := by decide +kernel
theorem dX8_isLight_3 : decode cX8_isLight 3 = .ok (.iload 4, 2) := by decide +kernel
theorem dX8_isLight_5 : decode cX8_isLight 5 = .ok (.bipush 7, 2) := by decide +kernel
theorem dX8_isLight_7 : decode cX8_isLight 7 = .ok (.if_icmp .ge 19, 3) := by decide +kernel
theorem dX8_isLight_10 : decode cX8_isLight 10 = .ok (.aload_n 0, 1) := by decide +kernel
theorem dX8_isLight_11 : decode cX8_isLight 11 = .ok (.getfield 15, 3) := by decide +kernel
theorem dX8_isLight_14 : decode cX8_isLight 14 = .ok (.iload 4, 2) := by decide +kernel
theorem dX8_isLight_16 : decode cX8_isLight 16 = .ok (.iconst 0, 1) := by decide +kernel
theorem dX8_isLight_17 : decode cX8_isLight 17 = .ok (.invokestatic 38, 3) := by decide +kernel
theorem dX8_isLight_20 : decode cX8_isLight 20 = .ok (.iinc 4 1, 3) := by decide +kernel
theorem dX8_isLight_23 : decode cX8_isLight 23 = .ok (.goto (-20), 3) := by decide +kernel
theorem dX8_isLight_26 : decode cX8_isLight 26 = .ok (.iconst 0, 1) := by decide +kernel
theorem dX8_isLight_27 : decode cX8_isLight 27 = .ok (.istore 4, 2) := by decide +kernel
theorem dX8_isLight_29 : decode cX8_isLight 29 = .ok (.iload 4, 2) := by decide +kernel
theorem dX8_isLight_31 : decode cX8_isLight 31 = .ok (.aload_n 1, 1) := by decide +kernel
theorem dX8_isLight_32 : decode cX8_isLight 32 = .ok (.invokevirtual 46, 3) := by decide +kernel
theorem dX8_isLight_35 : decode cX8_isLight 35 = .ok (.if_icmp .ge 59, 3) := by decide +kernel
theorem dX8_isLight_38 : decode cX8_isLight 38 = .ok (.aload_n 1, 1) := by decide +kernel
theorem dX8_isLight_39 : decode cX8_isLight 39 = .ok (.iload 4, 2) := by decide +kernel
theorem dX8_isLight_41 : decode cX8_isLight 41 = .ok (.iload_n 2, 1) := by decide +kernel
theorem dX8_isLight_42 : decode cX8_isLight 42 = .ok (.invokestatic 73, 3) := by decide +kernel
theorem dX8_isLight_45 : decode cX8_isLight 45 = .ok (.istore 5, 2) := by decide +kernel
theorem dX8_isLight_47 : decode cX8_isLight 47 = .ok (.aload_n 0, 1) := by decide +kernel
theorem dX8_isLight_48 : decode cX8_isLight 48 = .ok (.getfield 15, 3) := by decide +kernel
theorem dX8_isLight_51 : decode cX8_isLight 51 = .ok (.iload 5, 2) := by decide +kernel
theorem dX8_isLight_53 : decode cX8_isLight 53 = .ok (.aload_n 0, 1) := by decide +kernel
theorem dX8_isLight_54 : decode cX8_isLight 54 = .ok (.getfield 15, 3) := by decide +kernel
theorem dX8_isLight_57 : decode cX8_isLight 57 = .ok (.iload 5, 2) := by decide +kernel
theorem dX8_isLight_59 : decode cX8_isLight 59 = .ok (.invokestatic 28, 3) := by decide +kernel
theorem dX8_isLight_62 : decode cX8_isLight 62 = .ok (.aload_n 1, 1) := by decide +kernel
theorem dX8_isLight_63 : decode cX8_isLight 63 = .ok (.iload 4, 2) := by decide +kernel
theorem dX8_isLight_65 : decode cX8_isLight 65 = .ok (.iconst 2, 1) := by decide +kernel
theorem dX8_isLight_66 : decode cX8_isLight 66 = .ok (.invokevirtual 52, 3) := by decide +kernel
theorem dX8_isLight_69 : decode cX8_isLight 69 = .ok (.iadd, 1) := by decide +kernel
theorem dX8_isLight_70 : decode cX8_isLight 70 = .ok (.invokestatic 38, 3) := by decide +kernel
theorem dX8_isLight_73 : decode cX8_isLight 73 = .ok (.aload_n 0, 1) := by decide +kernel
theorem dX8_isLight_74 : decode cX8_isLight 74 = .ok (.getfield 15, 3) := by decide +kernel
theorem dX8_isLight_77 : decode cX8_isLight 77 = .ok (.iload 5, 2) := by decide +kernel
theorem dX8_isLight_79 : decode cX8_isLight 79 = .ok (.invokestatic 28, 3) := by decide +kernel
theorem dX8_isLight_82 : decode cX8_isLight 82 = .ok (.iload_n 3, 1) := by decide +kernel
theorem dX8_isLight_83 : decode cX8_isLight 83 = .ok (.if_icmp .le 5, 3) := by decide +kernel
theorem dX8_isLight_86 : decode cX8_isLight 86 = .ok (.iconst 0, 1) := by decide +kernel
theorem dX8_isLight_87 : decode cX8_isLight 87 = .ok (.ireturn, 1) := by decide +kernel
theorem dX8_isLight_88 : decode cX8_isLight 88 = .ok (.iinc 4 1, 3) := by decide +kernel
theorem dX8_isLight_91 : decode cX8_isLight 91 = .ok (.goto (-62), 3) := by decide +kernel
theorem dX8_isLight_94 : decode cX8_isLight 94 = .ok (.iconst 1, 1) := by decide +kernel
theorem dX8_isLight_95 : decode cX8_isLight 95 = .ok (.ireturn, 1) := by decide +kernel
theorem dX9_init_0 : decode cX9_init 0 = .ok (.aload_n 0, 1) := by decide +kernel
theorem dX9_init_1 : decode cX9_init 1 = .ok (.invokespecial 3, 3) := by decide +kernel
theorem dX9_init_4 : decode cX9_init 4 = .ok (.aload_n 0, 1) := by decide +kernel
theorem dX9_init_5 : decode cX9_init 5 = .ok (.sipush 150, 3) := by decide +kernel
theorem dX9_init_8 : decode cX9_init 8 = .ok (.newarray .int, 2) := by decide +kernel
theorem dX9_init_10 : decode cX9_init 10 = .ok (.putfield 9, 3) := by decide +kernel
theorem dX9_init_13 : decode cX9_init 13 = .ok (.return_, 1) := by decide +kernel
theorem dX9_length_0 : decode cX9_length 0 = .ok (.aload_n 0, 1) := by decide +kernel
theorem dX9_length_1 : decode cX9_length 1 = .ok (.getfield 15, 3) := by decide +kernel
theorem dX9_length_4 : decode cX9_length 4 = .ok (.ireturn, 1) := by decide +kernel
theorem dX9_isFull_0 : decode cX9_isFull 0 = .ok (.aload_n 0, 1) := by decide +kernel
theorem dX9_isFull_1 : decode cX9_isFull 1 = .ok (.getfield 15, 3) := by decide +kernel
theorem dX9_isFull_4 : decode cX9_isFull 4 = .ok (.sipush 150, 3) := by decide +kernel
theorem dX9_isFull_7 : decode cX9_isFull 7 = .ok (.if_icmp .lt 7, 3) := by decide +kernel
theorem dX9_isFull_10 : decode cX9_isFull 10 = .ok (.iconst 1, 1) := by decide +kernel
theorem dX9_isFull_11 : decode cX9_isFull 11 = .ok (.goto 4, 3) := by decide +kernel
theorem dX9_isFull_14 : decode cX9_isFull 14 = .ok (.iconst 0, 1) := by decide +kernel
theorem dX9_isFull_15 : decode cX9_isFull 15 = .ok (.ireturn, 1) := by decide +kernel
theorem dX9_empty_0 : decode cX9_empty 0 = .ok (.aload_n 0, 1) := by decide +kernel
theorem dX9_empty_1 : decode cX9_empty 1 = .ok (.iconst 0, 1) := by decide +kernel
theorem dX9_empty_2 : decode cX9_empty 2 = .ok (.putfield 15, 3) := by decide +kernel
theorem dX9_empty_5 : decode cX9_empty 5 = .ok (.return_, 1) := by decide +kernel
set_option maxRecDepth 20000 in
theorem ggX9_append_X11_setCell : GoodIn wsX9_append wsX11_setCell := goodIn_r _ [5] (by decide +kernel) (by decide +kernel)
set_option maxRecDepth 20000 in
theorem gX9_append_X11_setCell_n19 : GoodIn wsX9_append (wsX11_setCell) := ggX9_append_X11_setCell
theorem dX9_append_0 : decode cX9_append 0 = .ok (.aload_n 0, 1) := by decide +kernel
theorem dX9_append_1 : decode cX9_append 1 = .ok (.getfield 9, 3) := by decide +kernel
theorem dX9_append_4 : decode cX9_append 4 = .ok (.aload_n 0, 1) := by decide +kernel
theorem dX9_append_5 : decode cX9_append 5 = .ok (.getfield 15, 3) := by decide +kernel
theorem dX9_append_8 : decode cX9_append 8 = .ok (.iload_n 1, 1) := by decide +kernel
theorem dX9_append_9 : decode cX9_append 9 = .ok (.invokestatic 19, 3) := by decide +kernel
theorem dX9_append_12 : decode cX9_append 12 = .ok (.aload_n 0, 1) := by decide +kernel
theorem dX9_append_13 : decode cX9_append 13 = .ok (.dup, 1) := by decide +kernel
theorem dX9_append_14 : decode cX9_append 14 = .ok (.getfield 15, 3) := by decide +kernel
theorem dX9_append_17 : decode cX9_append 17 = .ok (.iconst 1, 1) := by decide +kernel
theorem dX9_append_18 : decode cX9_append 18 = .ok (.iadd, 1) := by decide +kernel
theorem dX9_append_19 : decode cX9_append 19 = .ok (.putfield 15, 3) := by decide +kernel
theorem dX9_append_22 : decode cX9_append 22 = .ok (.aload_n 0, 1) := by decide +kernel
theorem dX9_append_23 : decode cX9_append 23 = .ok (.getfield 15, 3) := by decide +kernel
theorem dX9_append_26 : decode cX9_append 26 = .ok (.ireturn, 1) := by decide +kernel
set_option maxRecDepth 20000 in
theorem ggX9_readInto_X6_empty : GoodIn wsX9_readInto wsX6_empty := goodIn_r _ [11, 12, 13, 14, 15, 16, 17, 18, 19, 20, 21, 22, 23, 24, 223, 224, 225, 226, 227, 228, 229, 230, 231, 232, 233] (by decide +kernel) (by decide +kernel)
set_option maxRecDepth 20000 in
theorem gX9_readInto_X6_empty : GoodIn wsX9_readInto (wsV RX9 23 RX6 yX6_empty wsX6_empty) := goodIn_app (goodIn_of _ (by decide +kernel)) ggX9_readInto_X6_empty
set_option maxRecDepth 20000 in
theorem ggX9_readInto_X9_next : GoodIn wsX9_readInto wsX9_next := goodIn_r _ [29, 1, 6, 30, 31, 2, 5, 32, 33, 34, 28, 35, 36, 37, 38, 39, 40, 41, 42, 43, 44, 45, 46, 47, 48, 49, 50, 51, 52, 53, 54, 55, 56, 57, 58, 59, 60, 61, 62, 63, 64, 65, 66, 67, 68, 69, 70, 71, 72, 73, 74, 75, 76, 77, 78, 79, 80, 81, 82, 83, 84, 85, 86, 87, 88, 89, 90, 91, 92, 93, 94, 95, 96, 97, 215, 216, 217, 218, 219, 220, 221, 222] (by decide +kernel) (by decide +kernel)
set_option maxRecDepth 20000 in
theorem gX9_readInto_X9_next : GoodIn wsX9_readInto (wsV RX9 31 RX9 yX9_next wsX9_next) := goodIn_app (goodIn_of _ (by decide +kernel)) ggX9_readInto_X9_next
set_option maxRecDepth 20000 in
theorem ggX9_readInto_X9_stops : GoodIn wsX9_readInto wsX9_stops := goodIn_r _ [101, 2, 25, 26, 27, 28, 29, 1, 6, 30, 31, 5, 32, 33, 34, 35, 36, 37, 38, 39, 40, 41, 42, 43, 44, 45, 46, 47, 48, 49, 50, 51, 52, 53, 54, 55, 56, 57, 58, 59, 60, 61, 62, 63, 64, 65, 66, 67, 68, 69, 70, 71, 72, 73, 74, 75, 76, 77, 78, 79, 80, 81, 82, 83, 84, 85, 86, 87, 88, 89, 90, 91, 92, 93, 94, 95, 96, 97, 215, 216, 217, 218, 219, 220, 221, 222] (by decide +kernel) (by decide +kernel)
set_option maxRecDepth 20000 in
theorem gX9_readInto_X9_stops : GoodIn wsX9_readInto (wsV RX9 37 RX9 yX9_stops wsX9_stops) := goodIn_app (goodIn_of _ (by decide +kernel)) ggX9_readInto_X9_stops
set_option maxRecDepth 20000 in
theorem ggX9_readInto_X7_isFull : GoodIn wsX9_readInto wsX7_isFull := goodIn_r _ [105, 24, 106, 230, 231, 232, 233] (by decide +kernel) (by decide +kernel)
set_option maxRecDepth 20000 in
theorem gX9_readInto_X7_isFull : GoodIn wsX9_readInto (wsV RX9 45 RX7 yX7_isFull wsX7_isFull) := goodIn_app (goodIn_of _ (by decide +kernel)) ggX9_readInto_X7_isFull
set_option maxRecDepth 20000 in
theorem ggX9_readInto_X9_readThree : GoodIn wsX9_readInto wsX9_readThree := goodIn_r _ [110, 5, 3, 4, 111, 112, 113, 28, 114, 2, 25, 26, 27, 29, 1, 6, 30, 31, 32, 33, 34, 35, 36, 37, 38, 39, 40, 41, 42, 43, 44, 45, 46, 47, 48, 49, 50, 51, 52, 53, 54, 55, 56, 57, 58, 59, 60, 61, 62, 63, 64, 65, 66, 67, 68, 69, 70, 71, 72, 73, 74, 75, 76, 77, 78, 79, 80, 81, 82, 83, 84, 85, 86, 87, 88, 89, 90, 91, 92, 93, 94, 95, 96, 97, 215, 216, 217, 218, 219, 220, 221, 222] (by decide +kernel) (by decide +kernel)
set_option maxRecDepth 20000 in
theorem gX9_readInto_X9_readThree : GoodIn wsX9_readInto (wsV RX9 50 RX9 yX9_readThree wsX9_readThree) := goodIn_app (goodIn_of _ (by decide +kernel)) ggX9_readInto_X9_readThree
set_option maxRecDepth 20000 in
theorem ggX9_readInto_X6_addClerk : GoodIn wsX9_readInto wsX6_addClerk := goodIn_r _ [118, 17, 12, 19, 20, 21, 22, 23, 24, 119, 120, 121, 122, 123, 103, 104, 105, 106, 124, 125, 126, 127, 128, 129, 223, 224, 225, 226, 227, 228, 229, 230, 231, 232, 233] (by decide +kernel) (by decide +kernel)
set_option maxRecDepth 20000 in
theorem gX9_readInto_X6_addClerk : GoodIn wsX9_readInto (wsV RX9 62 RX6 yX6_addClerk wsX6_addClerk) := goodIn_app (goodIn_of _ (by decide +kernel)) ggX9_readInto_X6_addClerk
set_option maxRecDepth 20000 in
theorem ggX9_readInto_X6_addMagnet : GoodIn wsX9_readInto wsX6_addMagnet := goodIn_r _ [133, 17, 13, 19, 20, 21, 22, 23, 24, 119, 120, 121, 122, 123, 103, 104, 105, 106, 124, 125, 126, 127, 128, 129, 223, 224, 225, 226, 227, 228, 229, 230, 231, 232, 233] (by decide +kernel) (by decide +kernel)
set_option maxRecDepth 20000 in
theorem gX9_readInto_X6_addMagnet : GoodIn wsX9_readInto (wsV RX9 69 RX6 yX6_addMagnet wsX6_addMagnet) := goodIn_app (goodIn_of _ (by decide +kernel)) ggX9_readInto_X6_addMagnet
set_option maxRecDepth 20000 in
theorem ggX9_readInto_X9_readHook : GoodIn wsX9_readInto wsX9_readHook := goodIn_r _ [137, 5, 138, 139, 140, 22, 141, 24, 111, 112, 113, 28, 114, 2, 25, 26, 27, 29, 1, 6, 30, 31, 32, 33, 34, 35, 36, 37, 38, 39, 40, 41, 42, 43, 44, 45, 46, 47, 48, 49, 50, 51, 52, 53, 54, 55, 56, 57, 58, 59, 60, 61, 62, 63, 64, 65, 66, 67, 68, 69, 70, 71, 72, 73, 74, 75, 76, 77, 78, 79, 80, 81, 82, 83, 84, 85, 86, 87, 88, 89, 90, 91, 92, 93, 94, 95, 96, 97, 142, 143, 144, 145, 128, 129, 146, 147, 148, 149, 150, 151, 152, 153, 154, 155, 156, 157, 158, 159, 160, 161, 125, 126, 127, 215, 216, 217, 218, 219, 220, 221, 222, 230, 231, 232, 233] (by decide +kernel) (by decide +kernel)
set_option maxRecDepth 20000 in
theorem gX9_readInto_X9_readHook : GoodIn wsX9_readInto (wsV RX9 72 RX9 yX9_readHook wsX9_readHook) := goodIn_app (goodIn_of _ (by decide +kernel)) ggX9_readInto_X9_readHook
set_option maxRecDepth 20000 in
theorem ggX9_readInto_X9_readNumber : GoodIn wsX9_readInto wsX9_readNumber := goodIn_r _ [114, 2, 5, 25, 26, 27, 28, 29, 1, 6, 30, 31, 32, 33, 34, 35, 36, 37, 38, 39, 40, 41, 42, 43, 44, 45, 46, 47, 48, 49, 50, 51, 52, 53, 54, 55, 56, 57, 58, 59, 60, 61, 62, 63, 64, 65, 66, 67, 68, 69, 70, 71, 72, 73, 74, 75, 76, 77, 78, 79, 80, 81, 82, 83, 84, 85, 86, 87, 88, 89, 90, 91, 92, 93, 94, 95, 96, 97, 215, 216, 217, 218, 219, 220, 221, 222] (by decide +kernel) (by decide +kernel)
set_option maxRecDepth 20000 in
theorem gX9_readInto_X9_readNumber : GoodIn wsX9_readInto (wsV RX9 76 RX9 yX9_readNumber wsX9_readNumber) := goodIn_app (goodIn_of _ (by decide +kernel)) ggX9_readInto_X9_readNumber
set_option maxRecDepth 20000 in
theorem ggX9_readInto_X6_passDays : GoodIn wsX9_readInto wsX6_passDays := goodIn_r _ [165, 18, 166, 167, 168, 169, 12, 13, 170, 171, 172, 173, 174, 139, 140, 22, 141, 24, 175, 143, 144, 145, 128, 129, 176, 177, 148, 178, 179, 180, 181, 182, 37, 183, 153, 160, 184, 185, 186, 187, 188, 189, 190, 191, 192, 193, 194, 195, 196, 197, 198, 199, 200, 201, 202, 203, 204, 205, 206, 207, 208, 209, 39, 40, 210, 211, 212, 213, 214, 125, 126, 127, 223, 224, 225, 226, 227, 228, 229, 230, 231, 232, 233] (by decide +kernel) (by decide +kernel)
set_option maxRecDepth 20000 in
theorem gX9_readInto_X6_passDays : GoodIn wsX9_readInto (wsV RX9 80 RX6 yX6_passDays wsX6_passDays) := goodIn_app (goodIn_of _ (by decide +kernel)) ggX9_readInto_X6_passDays
theorem dX9_readInto_0 : decode cX9_readInto 0 = .ok (.aload_n 1, 1) := by decide +kernel
theorem dX9_readInto_1 : decode cX9_readInto 1 = .ok (.invokevirtual 23, 3) := by decide +kernel
theorem dX9_readInto_4 : decode cX9_readInto 4 = .ok (.aload_n 0, 1) := by decide +kernel
theorem dX9_readInto_5 : decode cX9_readInto 5 = .ok (.iconst 0, 1) := by decide +kernel
theorem dX9_readInto_6 : decode cX9_readInto 6 = .ok (.putfield 28, 3) := by decide +kernel
theorem dX9_readInto_9 : decode cX9_readInto 9 = .ok (.aload_n 0, 1) := by decide +kernel
theorem dX9_readInto_10 : decode cX9_readInto 10 = .ok (.invokevirtual 31, 3) := by decide +kernel
theorem dX9_readInto_13 : decode cX9_readInto 13 = .ok (.aload_n 0, 1) := by decide +kernel
theorem dX9_readInto_14 : decode cX9_readInto 14 = .ok (.getfield 34, 3) := by decide +kernel
theorem dX9_readInto_17 : decode cX9_readInto 17 = .ok (.iconst 4, 1) := by decide +kernel
theorem dX9_readInto_18 : decode cX9_readInto 18 = .ok (.if_icmp .ne 14, 3) := by decide +kernel
theorem dX9_readInto_21 : decode cX9_readInto 21 = .ok (.aload_n 0, 1) := by decide +kernel
theorem dX9_readInto_22 : decode cX9_readInto 22 = .ok (.invokevirtual 37, 3) := by decide +kernel
theorem dX9_readInto_25 : decode cX9_readInto 25 = .ok (.ifCond .eq 7, 3) := by decide +kernel
theorem dX9_readInto_28 : decode cX9_readInto 28 = .ok (.iconst 1, 1) := by decide +kernel
theorem dX9_readInto_29 : decode cX9_readInto 29 = .ok (.goto 4, 3) := by decide +kernel
theorem dX9_readInto_32 : decode cX9_readInto 32 = .ok (.iconst 0, 1) := by decide +kernel
theorem dX9_readInto_33 : decode cX9_readInto 33 = .ok (.istore_n 2, 1) := by decide +kernel
theorem dX9_readInto_34 : decode cX9_readInto 34 = .ok (.iconst 1, 1) := by decide +kernel
theorem dX9_readInto_35 : decode cX9_readInto 35 = .ok (.istore_n 3, 1) := by decide +kernel
theorem dX9_readInto_36 : decode cX9_readInto 36 = .ok (.iload_n 2, 1) := by decide +kernel
theorem dX9_readInto_37 : decode cX9_readInto 37 = .ok (.ifCond .eq 251, 3) := by decide +kernel
theorem dX9_readInto_40 : decode cX9_readInto 40 = .ok (.iload_n 3, 1) := by decide +kernel
theorem dX9_readInto_41 : decode cX9_readInto 41 = .ok (.sipush 150, 3) := by decide +kernel
theorem dX9_readInto_44 : decode cX9_readInto 44 = .ok (.if_icmp .gt 244, 3) := by decide +kernel
theorem dX9_readInto_47 : decode cX9_readInto 47 = .ok (.aload_n 0, 1) := by decide +kernel
theorem dX9_readInto_48 : decode cX9_readInto 48 = .ok (.invokevirtual 31, 3) := by decide +kernel
theorem dX9_readInto_51 : decode cX9_readInto 51 = .ok (.aload_n 0, 1) := by decide +kernel
theorem dX9_readInto_52 : decode cX9_readInto 52 = .ok (.getfield 34, 3) := by decide +kernel
theorem dX9_readInto_55 : decode cX9_readInto 55 = .ok (.tableswitch 225 0 8 #[49, 225, 225, 225, 225, 51, 105, 159, 186], 49) := by decide +kernel
theorem dX9_readInto_104 : decode cX9_readInto 104 = .ok (.iload_n 3, 1) := by decide +kernel
theorem dX9_readInto_105 : decode cX9_readInto 105 = .ok (.ireturn, 1) := by decide +kernel
theorem dX9_readInto_106 : decode cX9_readInto 106 = .ok (.aload_n 1, 1) := by decide +kernel
theorem dX9_readInto_107 : decode cX9_readInto 107 = .ok (.getfield 41, 3) := by decide +kernel
theorem dX9_readInto_110 : decode cX9_readInto 110 = .ok (.invokevirtual 45, 3) := by decide +kernel
theorem dX9_readInto_113 : decode cX9_readInto 113 = .ok (.ifCond .ne 21, 3) := by decide +kernel
theorem dX9_readInto_116 : decode cX9_readInto 116 = .ok (.aload_n 0, 1) := by decide +kernel
theorem dX9_readInto_117 : decode cX9_readInto 117 = .ok (.invokevirtual 50, 3) := by decide +kernel
theorem dX9_readInto_120 : decode cX9_readInto 120 = .ok (.ifCond .eq 14, 3) := by decide +kernel
theorem dX9_readInto_123 : decode cX9_readInto 123 = .ok (.aload_n 0, 1) := by decide +kernel
theorem dX9_readInto_124 : decode cX9_readInto 124 = .ok (.invokevirtual 37, 3) := by decide +kernel
theorem dX9_readInto_127 : decode cX9_readInto 127 = .ok (.ifCond .eq 7, 3) := by decide +kernel
theorem dX9_readInto_130 : decode cX9_readInto 130 = .ok (.iconst 1, 1) := by decide +kernel
theorem dX9_readInto_131 : decode cX9_readInto 131 = .ok (.goto 4, 3) := by decide +kernel
theorem dX9_readInto_134 : decode cX9_readInto 134 = .ok (.iconst 0, 1) := by decide +kernel
theorem dX9_readInto_135 : decode cX9_readInto 135 = .ok (.istore_n 2, 1) := by decide +kernel
theorem dX9_readInto_136 : decode cX9_readInto 136 = .ok (.iload_n 2, 1) := by decide +kernel
theorem dX9_readInto_137 : decode cX9_readInto 137 = .ok (.ifCond .eq 145, 3) := by decide +kernel
theorem dX9_readInto_140 : decode cX9_readInto 140 = .ok (.aload_n 1, 1) := by decide +kernel
theorem dX9_readInto_141 : decode cX9_readInto 141 = .ok (.aload_n 0, 1) := by decide +kernel
theorem dX9_readInto_142 : decode cX9_readInto 142 = .ok (.getfield 53, 3) := by decide +kernel
theorem dX9_readInto_145 : decode cX9_readInto 145 = .ok (.aload_n 0, 1) := by decide +kernel
theorem dX9_readInto_146 : decode cX9_readInto 146 = .ok (.getfield 56, 3) := by decide +kernel
theorem dX9_readInto_149 : decode cX9_readInto 149 = .ok (.aload_n 0, 1) := by decide +kernel
theorem dX9_readInto_150 : decode cX9_readInto 150 = .ok (.getfield 59, 3) := by decide +kernel
theorem dX9_readInto_153 : decode cX9_readInto 153 = .ok (.invokevirtual 62, 3) := by decide +kernel
theorem dX9_readInto_156 : decode cX9_readInto 156 = .ok (.pop, 1) := by decide +kernel
theorem dX9_readInto_157 : decode cX9_readInto 157 = .ok (.goto 125, 3) := by decide +kernel
theorem dX9_readInto_160 : decode cX9_readInto 160 = .ok (.aload_n 1, 1) := by decide +kernel
theorem dX9_readInto_161 : decode cX9_readInto 161 = .ok (.getfield 66, 3) := by decide +kernel
theorem dX9_readInto_164 : decode cX9_readInto 164 = .ok (.invokevirtual 45, 3) := by decide +kernel
theorem dX9_readInto_167 : decode cX9_readInto 167 = .ok (.ifCond .ne 21, 3) := by decide +kernel
theorem dX9_readInto_170 : decode cX9_readInto 170 = .ok (.aload_n 0, 1) := by decide +kernel
theorem dX9_readInto_171 : decode cX9_readInto 171 = .ok (.invokevirtual 50, 3) := by decide +kernel
theorem dX9_readInto_174 : decode cX9_readInto 174 = .ok (.ifCond .eq 14, 3) := by decide +kernel
theorem dX9_readInto_177 : decode cX9_readInto 177 = .ok (.aload_n 0, 1) := by decide +kernel
theorem dX9_readInto_178 : decode cX9_readInto 178 = .ok (.invokevirtual 37, 3) := by decide +kernel
theorem dX9_readInto_181 : decode cX9_readInto 181 = .ok (.ifCond .eq 7, 3) := by decide +kernel
theorem dX9_readInto_184 : decode cX9_readInto 184 = .ok (.iconst 1, 1) := by decide +kernel
theorem dX9_readInto_185 : decode cX9_readInto 185 = .ok (.goto 4, 3) := by decide +kernel
theorem dX9_readInto_188 : decode cX9_readInto 188 = .ok (.iconst 0, 1) := by decide +kernel
theorem dX9_readInto_189 : decode cX9_readInto 189 = .ok (.istore_n 2, 1) := by decide +kernel
theorem dX9_readInto_190 : decode cX9_readInto 190 = .ok (.iload_n 2, 1) := by decide +kernel
theorem dX9_readInto_191 : decode cX9_readInto 191 = .ok (.ifCond .eq 91, 3) := by decide +kernel
theorem dX9_readInto_194 : decode cX9_readInto 194 = .ok (.aload_n 1, 1) := by decide +kernel
theorem dX9_readInto_195 : decode cX9_readInto 195 = .ok (.aload_n 0, 1) := by decide +kernel
theorem dX9_readInto_196 : decode cX9_readInto 196 = .ok (.getfield 53, 3) := by decide +kernel
theorem dX9_readInto_199 : decode cX9_readInto 199 = .ok (.aload_n 0, 1) := by decide +kernel
theorem dX9_readInto_200 : decode cX9_readInto 200 = .ok (.getfield 56, 3) := by decide +kernel
theorem dX9_readInto_203 : decode cX9_readInto 203 = .ok (.aload_n 0, 1) := by decide +kernel
theorem dX9_readInto_204 : decode cX9_readInto 204 = .ok (.getfield 59, 3) := by decide +kernel
theorem dX9_readInto_207 : decode cX9_readInto 207 = .ok (.invokevirtual 69, 3) := by decide +kernel
theorem dX9_readInto_210 : decode cX9_readInto 210 = .ok (.pop, 1) := by decide +kernel
theorem dX9_readInto_211 : decode cX9_readInto 211 = .ok (.goto 71, 3) := by decide +kernel
theorem dX9_readInto_214 : decode cX9_readInto 214 = .ok (.aload_n 0, 1) := by decide +kernel
theorem dX9_readInto_215 : decode cX9_readInto 215 = .ok (.aload_n 1, 1) := by decide +kernel
theorem dX9_readInto_216 : decode cX9_readInto 216 = .ok (.getfield 41, 3) := by decide +kernel
theorem dX9_readInto_219 : decode cX9_readInto 219 = .ok (.invokevirtual 72, 3) := by decide +kernel
theorem dX9_readInto_222 : decode cX9_readInto 222 = .ok (.ifCond .eq 14, 3) := by decide +kernel
theorem dX9_readInto_225 : decode cX9_readInto 225 = .ok (.aload_n 0, 1) := by decide +kernel
theorem dX9_readInto_226 : decode cX9_readInto 226 = .ok (.invokevirtual 37, 3) := by decide +kernel
theorem dX9_readInto_229 : decode cX9_readInto 229 = .ok (.ifCond .eq 7, 3) := by decide +kernel
theorem dX9_readInto_232 : decode cX9_readInto 232 = .ok (.iconst 1, 1) := by decide +kernel
theorem dX9_readInto_233 : decode cX9_readInto 233 = .ok (.goto 4, 3) := by decide +kernel
theorem dX9_readInto_236 : decode cX9_readInto 236 = .ok (.iconst 0, 1) := by decide +kernel
theorem dX9_readInto_237 : decode cX9_readInto 237 = .ok (.istore_n 2, 1) := by decide +kernel
theorem dX9_readInto_238 : decode cX9_readInto 238 = .ok (.goto 44, 3) := by decide +kernel
theorem dX9_readInto_241 : decode cX9_readInto 241 = .ok (.aload_n 0, 1) := by decide +kernel
theorem dX9_readInto_242 : decode cX9_readInto 242 = .ok (.iconst 1, 1) := by decide +kernel
theorem dX9_readInto_243 : decode cX9_readInto 243 = .ok (.bipush 99, 2) := by decide +kernel
theorem dX9_readInto_245 : decode cX9_readInto 245 = .ok (.invokevirtual 76, 3) := by decide +kernel
theorem dX9_readInto_248 : decode cX9_readInto 248 = .ok (.ifCond .eq 14, 3) := by decide +kernel
theorem dX9_readInto_251 : decode cX9_readInto 251 = .ok (.aload_n 0, 1) := by decide +kernel
theorem dX9_readInto_252 : decode cX9_readInto 252 = .ok (.invokevirtual 37, 3) := by decide +kernel
theorem dX9_readInto_255 : decode cX9_readInto 255 = .ok (.ifCond .eq 7, 3) := by decide +kernel
theorem dX9_readInto_258 : decode cX9_readInto 258 = .ok (.iconst 1, 1) := by decide +kernel
theorem dX9_readInto_259 : decode cX9_readInto 259 = .ok (.goto 4, 3) := by decide +kernel
theorem dX9_readInto_262 : decode cX9_readInto 262 = .ok (.iconst 0, 1) := by decide +kernel
theorem dX9_readInto_263 : decode cX9_readInto 263 = .ok (.istore_n 2, 1) := by decide +kernel
theorem dX9_readInto_264 : decode cX9_readInto 264 = .ok (.iload_n 2, 1) := by decide +kernel
theorem dX9_readInto_265 : decode cX9_readInto 265 = .ok (.ifCond .eq 17, 3) := by decide +kernel
theorem dX9_readInto_268 : decode cX9_readInto 268 = .ok (.aload_n 1, 1) := by decide +kernel
theorem dX9_readInto_269 : decode cX9_readInto 269 = .ok (.aload_n 0, 1) := by decide +kernel
theorem dX9_readInto_270 : decode cX9_readInto 270 = .ok (.getfield 59, 3) := by decide +kernel
theorem dX9_readInto_273 : decode cX9_readInto 273 = .ok (.invokevirtual 80, 3) := by decide +kernel
theorem dX9_readInto_276 : decode cX9_readInto 276 = .ok (.pop, 1) := by decide +kernel
theorem dX9_readInto_277 : decode cX9_readInto 277 = .ok (.goto 5, 3) := by decide +kernel
theorem dX9_readInto_280 : decode cX9_readInto 280 = .ok (.iconst 0, 1) := by decide +kernel
theorem dX9_readInto_281 : decode cX9_readInto 281 = .ok (.istore_n 2, 1) := by decide +kernel
theorem dX9_readInto_282 : decode cX9_readInto 282 = .ok (.iinc 3 1, 3) := by decide +kernel
theorem dX9_readInto_285 : decode cX9_readInto 285 = .ok (.goto (-249), 3) := by decide +kernel
theorem dX9_readInto_288 : decode cX9_readInto 288 = .ok (.bipush (-10), 2) := by decide +kernel
theorem dX9_readInto_290 : decode cX9_readInto 290 = .ok (.aload_n 0, 1) := by decide +kernel
theorem dX9_readInto_291 : decode cX9_readInto 291 = .ok (.getfield 84, 3) := by decide +kernel
theorem dX9_readInto_294 : decode cX9_readInto 294 = .ok (.isub, 1) := by decide +kernel
theorem dX9_readInto_295 : decode cX9_readInto 295 = .ok (.ireturn, 1) := by decide +kernel
set_option maxRecDepth 20000 in
theorem ggX9_readThree_X9_readNumber : GoodIn wsX9_readThree wsX9_readNumber := goodIn_r _ [8, 9, 1, 10, 11, 12, 7, 13, 14, 15, 16, 17, 18, 19, 20, 21, 22, 23, 24, 25, 26, 27, 28, 29, 30, 31, 32, 33, 34, 35, 36, 37, 38, 39, 40, 41, 42, 43, 44, 45, 46, 47, 48, 49, 50, 51, 52, 53, 54, 55, 56, 57, 58, 59, 60, 61, 62, 63, 64, 65, 66, 67, 68, 69, 70, 71, 72, 73, 74, 75, 76, 77, 78, 79, 80, 81, 82, 83, 84, 85, 86, 87, 88, 89, 90, 91] (by decide +kernel) (by decide +kernel)
set_option maxRecDepth 20000 in
theorem gX9_readThree_X9_readNumber : GoodIn wsX9_readThree (wsV RX9 76 RX9 yX9_readNumber wsX9_readNumber) := goodIn_app (goodIn_of _ (by decide +kernel)) ggX9_readThree_X9_readNumber
theorem dX9_readThree_0 : decode cX9_readThree 0 = .ok (.aload_n 0, 1) := by decide +kernel
theorem dX9_readThree_1 : decode cX9_readThree 1 = .ok (.iconst 0, 1) := by decide +kernel
theorem dX9_readThree_2 : decode cX9_readThree 2 = .ok (.iconst 5, 1) := by decide +kernel
theorem dX9_readThree_3 : decode cX9_readThree 3 = .ok (.invokevirtual 76, 3) := by decide +kernel
theorem dX9_readThree_6 : decode cX9_readThree 6 = .ok (.ifCond .ne 5, 3) := by decide +kernel
theorem dX9_readThree_9 : decode cX9_readThree 9 = .ok (.iconst 0, 1) := by decide +kernel
theorem dX9_readThree_10 : decode cX9_readThree 10 = .ok (.ireturn, 1) := by decide +kernel
theorem dX9_readThree_11 : decode cX9_readThree 11 = .ok (.aload_n 0, 1) := by decide +kernel
theorem dX9_readThree_12 : decode cX9_readThree 12 = .ok (.aload_n 0, 1) := by decide +kernel
theorem dX9_readThree_13 : decode cX9_readThree 13 = .ok (.getfield 59, 3) := by decide +kernel
theorem dX9_readThree_16 : decode cX9_readThree 16 = .ok (.putfield 53, 3) := by decide +kernel
theorem dX9_readThree_19 : decode cX9_readThree 19 = .ok (.aload_n 0, 1) := by decide +kernel
theorem dX9_readThree_20 : decode cX9_readThree 20 = .ok (.iconst 0, 1) := by decide +kernel
theorem dX9_readThree_21 : decode cX9_readThree 21 = .ok (.bipush 11, 2) := by decide +kernel
theorem dX9_readThree_23 : decode cX9_readThree 23 = .ok (.invokevirtual 76, 3) := by decide +kernel
theorem dX9_readThree_26 : decode cX9_readThree 26 = .ok (.ifCond .ne 5, 3) := by decide +kernel
theorem dX9_readThree_29 : decode cX9_readThree 29 = .ok (.iconst 0, 1) := by decide +kernel
theorem dX9_readThree_30 : decode cX9_readThree 30 = .ok (.ireturn, 1) := by decide +kernel
theorem dX9_readThree_31 : decode cX9_readThree 31 = .ok (.aload_n 0, 1) := by decide +kernel
theorem dX9_readThree_32 : decode cX9_readThree 32 = .ok (.aload_n 0, 1) := by decide +kernel
theorem dX9_readThree_33 : decode cX9_readThree 33 = .ok (.getfield 59, 3) := by decide +kernel
theorem dX9_readThree_36 : decode cX9_readThree 36 = .ok (.putfield 56, 3) := by decide +kernel
theorem dX9_readThree_39 : decode cX9_readThree 39 = .ok (.aload_n 0, 1) := by decide +kernel
theorem dX9_readThree_40 : decode cX9_readThree 40 = .ok (.iconst 1, 1) := by decide +kernel
theorem dX9_readThree_41 : decode cX9_readThree 41 = .ok (.bipush 9, 2) := by decide +kernel
theorem dX9_readThree_43 : decode cX9_readThree 43 = .ok (.invokevirtual 76, 3) := by decide +kernel
theorem dX9_readThree_46 : decode cX9_readThree 46 = .ok (.ireturn, 1) := by decide +kernel
set_option maxRecDepth 20000 in
theorem ggX9_readHook_X7_size : GoodIn wsX9_readHook wsX7_size := goodIn_r _ [6, 7, 121, 122, 123, 124] (by decide +kernel) (by decide +kernel)
set_option maxRecDepth 20000 in
theorem gX9_readHook_X7_size : GoodIn wsX9_readHook (wsV RX9 87 RX7 yX7_size wsX7_size) := goodIn_app (goodIn_of _ (by decide +kernel)) ggX9_readHook_X7_size
set_option maxRecDepth 20000 in
theorem ggX9_readHook_X9_readNumber : GoodIn wsX9_readHook wsX9_readNumber := goodIn_r _ [12, 13, 1, 14, 15, 16, 11, 17, 18, 19, 20, 21, 22, 23, 24, 25, 26, 27, 28, 29, 30, 31, 32, 33, 34, 35, 36, 37, 38, 39, 40, 41, 42, 43, 44, 45, 46, 47, 48, 49, 50, 51, 52, 53, 54, 55, 56, 57, 58, 59, 60, 61, 62, 63, 64, 65, 66, 67, 68, 69, 70, 71, 72, 73, 74, 75, 76, 77, 78, 79, 80, 81, 82, 83, 84, 85, 86, 87, 113, 114, 115, 116, 117, 118, 119, 120] (by decide +kernel) (by decide +kernel)
set_option maxRecDepth 20000 in
theorem gX9_readHook_X9_readNumber : GoodIn wsX9_readHook (wsV RX9 76 RX9 yX9_readNumber wsX9_readNumber) := goodIn_app (goodIn_of _ (by decide +kernel)) ggX9_readHook_X9_readNumber
set_option maxRecDepth 20000 in
theorem ggX9_readHook_X7_get : GoodIn wsX9_readHook wsX7_get := goodIn_r _ [91, 7, 92, 93, 121, 122, 123, 124] (by decide +kernel) (by decide +kernel)
set_option maxRecDepth 20000 in
theorem gX9_readHook_X7_get : GoodIn wsX9_readHook (wsV RX9 91 RX7 yX7_get wsX7_get) := goodIn_app (goodIn_of _ (by decide +kernel)) ggX9_readHook_X7_get
set_option maxRecDepth 20000 in
theorem ggX9_readHook_X0_canHold : GoodIn wsX9_readHook wsX0_canHold := goodIn_r _ [97, 98, 99, 96, 100, 101, 89, 90, 5, 91, 7, 92, 93, 102, 103, 104, 105, 106, 107, 108, 3, 4, 6, 121, 122, 123, 124] (by decide +kernel) (by decide +kernel)
set_option maxRecDepth 20000 in
theorem gX9_readHook_X0_canHold : GoodIn wsX9_readHook (va_wsS RX9 95 yX0_canHold wsX0_canHold) := goodIn_app (goodIn_of _ (by decide +kernel)) ggX9_readHook_X0_canHold
set_option maxRecDepth 20000 in
theorem ggX9_readHook_X7_put : GoodIn wsX9_readHook wsX7_put := goodIn_r _ [112, 7, 92, 93, 121, 122, 123, 124] (by decide +kernel) (by decide +kernel)
set_option maxRecDepth 20000 in
theorem gX9_readHook_X7_put : GoodIn wsX9_readHook (wsV RX9 101 RX7 yX7_put wsX7_put) := goodIn_app (goodIn_of _ (by decide +kernel)) ggX9_readHook_X7_put
theorem dX9_readHook_0 : decode cX9_readHook 0 = .ok (.aload_n 1, 1) := by decide +kernel
theorem dX9_readHook_1 : decode cX9_readHook 1 = .ok (.invokevirtual 87, 3) := by decide +kernel
theorem dX9_readHook_4 : decode cX9_readHook 4 = .ok (.iconst 1, 1) := by decide +kernel
theorem dX9_readHook_5 : decode cX9_readHook 5 = .ok (.isub, 1) := by decide +kernel
theorem dX9_readHook_6 : decode cX9_readHook 6 = .ok (.istore_n 2, 1) := by decide +kernel
theorem dX9_readHook_7 : decode cX9_readHook 7 = .ok (.aload_n 0, 1) := by decide +kernel
theorem dX9_readHook_8 : decode cX9_readHook 8 = .ok (.iconst 0, 1) := by decide +kernel
theorem dX9_readHook_9 : decode cX9_readHook 9 = .ok (.iload_n 2, 1) := by decide +kernel
theorem dX9_readHook_10 : decode cX9_readHook 10 = .ok (.invokevirtual 76, 3) := by decide +kernel
theorem dX9_readHook_13 : decode cX9_readHook 13 = .ok (.ifCond .eq 16, 3) := by decide +kernel
theorem dX9_readHook_16 : decode cX9_readHook 16 = .ok (.aload_n 1, 1) := by decide +kernel
theorem dX9_readHook_17 : decode cX9_readHook 17 = .ok (.aload_n 0, 1) := by decide +kernel
theorem dX9_readHook_18 : decode cX9_readHook 18 = .ok (.getfield 59, 3) := by decide +kernel
theorem dX9_readHook_21 : decode cX9_readHook 21 = .ok (.iconst 4, 1) := by decide +kernel
theorem dX9_readHook_22 : decode cX9_readHook 22 = .ok (.invokevirtual 91, 3) := by decide +kernel
theorem dX9_readHook_25 : decode cX9_readHook 25 = .ok (.iconst (-1), 1) := by decide +kernel
theorem dX9_readHook_26 : decode cX9_readHook 26 = .ok (.if_icmp .eq 5, 3) := by decide +kernel
theorem dX9_readHook_29 : decode cX9_readHook 29 = .ok (.iconst 0, 1) := by decide +kernel
theorem dX9_readHook_30 : decode cX9_readHook 30 = .ok (.ireturn, 1) := by decide +kernel
theorem dX9_readHook_31 : decode cX9_readHook 31 = .ok (.aload_n 0, 1) := by decide +kernel
theorem dX9_readHook_32 : decode cX9_readHook 32 = .ok (.getfield 59, 3) := by decide +kernel
theorem dX9_readHook_35 : decode cX9_readHook 35 = .ok (.istore_n 3, 1) := by decide +kernel
theorem dX9_readHook_36 : decode cX9_readHook 36 = .ok (.aload_n 0, 1) := by decide +kernel
theorem dX9_readHook_37 : decode cX9_readHook 37 = .ok (.iconst 0, 1) := by decide +kernel
theorem dX9_readHook_38 : decode cX9_readHook 38 = .ok (.iload_n 2, 1) := by decide +kernel
theorem dX9_readHook_39 : decode cX9_readHook 39 = .ok (.invokevirtual 76, 3) := by decide +kernel
theorem dX9_readHook_42 : decode cX9_readHook 42 = .ok (.ifCond .eq 15, 3) := by decide +kernel
theorem dX9_readHook_45 : decode cX9_readHook 45 = .ok (.aload_n 1, 1) := by decide +kernel
theorem dX9_readHook_46 : decode cX9_readHook 46 = .ok (.aload_n 0, 1) := by decide +kernel
theorem dX9_readHook_47 : decode cX9_readHook 47 = .ok (.getfield 59, 3) := by decide +kernel
theorem dX9_readHook_50 : decode cX9_readHook 50 = .ok (.iload_n 3, 1) := by decide +kernel
theorem dX9_readHook_51 : decode cX9_readHook 51 = .ok (.invokestatic 95, 3) := by decide +kernel
theorem dX9_readHook_54 : decode cX9_readHook 54 = .ok (.ifCond .ne 5, 3) := by decide +kernel
theorem dX9_readHook_57 : decode cX9_readHook 57 = .ok (.iconst 0, 1) := by decide +kernel
theorem dX9_readHook_58 : decode cX9_readHook 58 = .ok (.ireturn, 1) := by decide +kernel
theorem dX9_readHook_59 : decode cX9_readHook 59 = .ok (.aload_n 1, 1) := by decide +kernel
theorem dX9_readHook_60 : decode cX9_readHook 60 = .ok (.iload_n 3, 1) := by decide +kernel
theorem dX9_readHook_61 : decode cX9_readHook 61 = .ok (.iconst 4, 1) := by decide +kernel
theorem dX9_readHook_62 : decode cX9_readHook 62 = .ok (.aload_n 0, 1) := by decide +kernel
theorem dX9_readHook_63 : decode cX9_readHook 63 = .ok (.getfield 59, 3) := by decide +kernel
theorem dX9_readHook_66 : decode cX9_readHook 66 = .ok (.invokevirtual 101, 3) := by decide +kernel
theorem dX9_readHook_69 : decode cX9_readHook 69 = .ok (.iconst 1, 1) := by decide +kernel
theorem dX9_readHook_70 : decode cX9_readHook 70 = .ok (.ireturn, 1) := by decide +kernel
set_option maxRecDepth 20000 in
theorem ggX9_readNumber_X9_next : GoodIn wsX9_readNumber wsX9_next := goodIn_r _ [7, 8, 9, 10, 11, 1, 2, 12, 13, 14, 6, 15, 16, 17, 18, 19, 20, 21, 22, 23, 24, 25, 26, 27, 28, 29, 30, 31, 32, 33, 34, 35, 36, 37, 38, 39, 40, 41, 42, 43, 44, 45, 46, 47, 48, 49, 50, 51, 52, 53, 54, 55, 56, 57, 58, 59, 60, 61, 62, 63, 64, 65, 66, 67, 68, 69, 70, 71, 72, 73, 74, 75, 76, 77, 78, 79, 80, 81, 82, 83, 84, 85] (by decide +kernel) (by decide +kernel)
set_option maxRecDepth 20000 in
theorem gX9_readNumber_X9_next : GoodIn wsX9_readNumber (wsV RX9 31 RX9 yX9_next wsX9_next) := goodIn_app (goodIn_of _ (by decide +kernel)) ggX9_readNumber_X9_next
set_option maxRecDepth 20000 in
theorem ggX9_readNumber_X11_within : GoodIn wsX9_readNumber wsX11_within := goodIn_r _ [20] (by decide +kernel) (by decide +kernel)
set_option maxRecDepth 20000 in
theorem gX9_readNumber_X11_within_n105 : GoodIn wsX9_readNumber (wsX11_within) := ggX9_readNumber_X11_within
theorem dX9_readNumber_0 : decode cX9_readNumber 0 = .ok (.aload_n 0, 1) := by decide +kernel
theorem dX9_readNumber_1 : decode cX9_readNumber 1 = .ok (.invokevirtual 31, 3) := by decide +kernel
theorem dX9_readNumber_4 : decode cX9_readNumber 4 = .ok (.aload_n 0, 1) := by decide +kernel
theorem dX9_readNumber_5 : decode cX9_readNumber 5 = .ok (.getfield 34, 3) := by decide +kernel
theorem dX9_readNumber_8 : decode cX9_readNumber 8 = .ok (.iconst 2, 1) := by decide +kernel
theorem dX9_readNumber_9 : decode cX9_readNumber 9 = .ok (.if_icmp .ne 19, 3) := by decide +kernel
theorem dX9_readNumber_12 : decode cX9_readNumber 12 = .ok (.aload_n 0, 1) := by decide +kernel
theorem dX9_readNumber_13 : decode cX9_readNumber 13 = .ok (.getfield 59, 3) := by decide +kernel
theorem dX9_readNumber_16 : decode cX9_readNumber 16 = .ok (.iload_n 1, 1) := by decide +kernel
theorem dX9_readNumber_17 : decode cX9_readNumber 17 = .ok (.iload_n 2, 1) := by decide +kernel
theorem dX9_readNumber_18 : decode cX9_readNumber 18 = .ok (.invokestatic 105, 3) := by decide +kernel
theorem dX9_readNumber_21 : decode cX9_readNumber 21 = .ok (.ifCond .eq 7, 3) := by decide +kernel
theorem dX9_readNumber_24 : decode cX9_readNumber 24 = .ok (.iconst 1, 1) := by decide +kernel
theorem dX9_readNumber_25 : decode cX9_readNumber 25 = .ok (.goto 4, 3) := by decide +kernel
theorem dX9_readNumber_28 : decode cX9_readNumber 28 = .ok (.iconst 0, 1) := by decide +kernel
theorem dX9_readNumber_29 : decode cX9_readNumber 29 = .ok (.ireturn, 1) := by decide +kernel
set_option maxRecDepth 20000 in
theorem ggX9_stops_X9_next : GoodIn wsX9_stops wsX9_next := goodIn_r _ [6, 7, 8, 9, 10, 1, 11, 12, 13, 14, 5, 15, 16, 17, 18, 19, 20, 21, 22, 23, 24, 25, 26, 27, 28, 29, 30, 31, 32, 33, 34, 35, 36, 37, 38, 39, 40, 41, 42, 43, 44, 45, 46, 47, 48, 49, 50, 51, 52, 53, 54, 55, 56, 57, 58, 59, 60, 61, 62, 63, 64, 65, 66, 67, 68, 69, 70, 71, 72, 73, 74, 75, 76, 77, 78, 79, 80, 81, 82, 83, 84, 85] (by decide +kernel) (by decide +kernel)
set_option maxRecDepth 20000 in
theorem gX9_stops_X9_next : GoodIn wsX9_stops (wsV RX9 31 RX9 yX9_next wsX9_next) := goodIn_app (goodIn_of _ (by decide +kernel)) ggX9_stops_X9_next
theorem dX9_stops_0 : decode cX9_stops 0 = .ok (.aload_n 0, 1) := by decide +kernel
theorem dX9_stops_1 : decode cX9_stops 1 = .ok (.invokevirtual 31, 3) := by decide +kernel
theorem dX9_stops_4 : decode cX9_stops 4 = .ok (.aload_n 0, 1) := by decide +kernel
theorem dX9_stops_5 : decode cX9_stops 5 = .ok (.getfield 34, 3) := by decide +kernel
theorem dX9_stops_8 : decode cX9_stops 8 = .ok (.iconst 3, 1) := by decide +kernel
theorem dX9_stops_9 : decode cX9_stops 9 = .ok (.if_icmp .ne 7, 3) := by decide +kernel
theorem dX9_stops_12 : decode cX9_stops 12 = .ok (.iconst 1, 1) := by decide +kernel
theorem dX9_stops_13 : decode cX9_stops 13 = .ok (.goto 4, 3) := by decide +kernel
theorem dX9_stops_16 : decode cX9_stops 16 = .ok (.iconst 0, 1) := by decide +kernel
theorem dX9_stops_17 : decode cX9_stops 17 = .ok (.ireturn, 1) := by decide +kernel
set_option maxRecDepth 20000 in
theorem ggX9_next_X9_behind : GoodIn wsX9_next wsX9_behind := goodIn_r _ [11, 1, 4, 3, 12, 13, 14, 15, 16, 74, 75, 76, 77, 78, 79, 80, 81] (by decide +kernel) (by decide +kernel)
set_option maxRecDepth 20000 in
theorem gX9_next_X9_behind : GoodIn wsX9_next (wsV RX9 109 RX9 yX9_behind wsX9_behind) := goodIn_app (goodIn_of _ (by decide +kernel)) ggX9_next_X9_behind
set_option maxRecDepth 20000 in
theorem ggX9_next_X11_cell : GoodIn wsX9_next wsX11_cell := goodIn_r _ [14] (by decide +kernel) (by decide +kernel)
set_option maxRecDepth 20000 in
theorem gX9_next_X11_cell_n112 : GoodIn wsX9_next (wsX11_cell) := ggX9_next_X11_cell
set_option maxRecDepth 20000 in
theorem ggX9_next_X11_within : GoodIn wsX9_next wsX11_within := goodIn_r _ [16] (by decide +kernel) (by decide +kernel)
set_option maxRecDepth 20000 in
theorem gX9_next_X11_within_n105 : GoodIn wsX9_next (wsX11_within) := ggX9_next_X11_within
set_option maxRecDepth 20000 in
theorem ggX9_next_X9_isWord : GoodIn wsX9_next wsX9_isWord := goodIn_r _ [20, 1, 2, 3, 21, 22, 23, 24, 25, 26, 27, 28, 29, 30, 31, 32, 12, 13, 14, 33, 34, 35, 36, 37, 38, 39, 40, 41, 42, 43, 44, 45, 46, 47, 48, 49, 50, 51, 52, 53, 54, 55, 56, 57, 58, 59, 60, 61, 62, 63, 64, 65, 66, 67, 68, 69, 74, 75, 76, 77, 78, 79, 80, 81] (by decide +kernel) (by decide +kernel)
set_option maxRecDepth 20000 in
theorem gX9_next_X9_isWord : GoodIn wsX9_next (wsV RX9 118 RX9 yX9_isWord wsX9_isWord) := goodIn_app (goodIn_of _ (by decide +kernel)) ggX9_next_X9_isWord
set_option maxRecDepth 20000 in
theorem ggX9_next_X9_numberAt : GoodIn wsX9_next wsX9_numberAt := goodIn_r _ [73, 2, 1, 3, 12, 13, 14, 74, 75, 76, 77, 78, 79, 80, 81] (by decide +kernel) (by decide +kernel)
set_option maxRecDepth 20000 in
theorem gX9_next_X9_numberAt : GoodIn wsX9_next (wsV RX9 130 RX9 yX9_numberAt wsX9_numberAt) := goodIn_app (goodIn_of _ (by decide +kernel)) ggX9_next_X9_numberAt
theorem dX9_next_0 : decode cX9_next 0 = .ok (.aload_n 0, 1) := by decide +kernel
theorem dX9_next_1 : decode cX9_next 1 = .ok (.aload_n 0, 1) := by decide +kernel
theorem dX9_next_2 : decode cX9_next 2 = .ok (.bipush 32, 2) := by decide +kernel
theorem dX9_next_4 : decode cX9_next 4 = .ok (.bipush 32, 2) := by decide +kernel
theorem dX9_next_6 : decode cX9_next 6 = .ok (.invokevirtual 109, 3) := by decide +kernel
theorem dX9_next_9 : decode cX9_next 9 = .ok (.putfield 28, 3) := by decide +kernel
theorem dX9_next_12 : decode cX9_next 12 = .ok (.aload_n 0, 1) := by decide +kernel
theorem dX9_next_13 : decode cX9_next 13 = .ok (.aload_n 0, 1) := by decide +kernel
theorem dX9_next_14 : decode cX9_next 14 = .ok (.getfield 28, 3) := by decide +kernel
theorem dX9_next_17 : decode cX9_next 17 = .ok (.putfield 84, 3) := by decide +kernel
theorem dX9_next_20 : decode cX9_next 20 = .ok (.aload_n 0, 1) := by decide +kernel
theorem dX9_next_21 : decode cX9_next 21 = .ok (.getfield 9, 3) := by decide +kernel
theorem dX9_next_24 : decode cX9_next 24 = .ok (.aload_n 0, 1) := by decide +kernel
theorem dX9_next_25 : decode cX9_next 25 = .ok (.getfield 84, 3) := by decide +kernel
theorem dX9_next_28 : decode cX9_next 28 = .ok (.invokestatic 112, 3) := by decide +kernel
theorem dX9_next_31 : decode cX9_next 31 = .ok (.istore_n 1, 1) := by decide +kernel
theorem dX9_next_32 : decode cX9_next 32 = .ok (.aload_n 0, 1) := by decide +kernel
theorem dX9_next_33 : decode cX9_next 33 = .ok (.getfield 84, 3) := by decide +kernel
theorem dX9_next_36 : decode cX9_next 36 = .ok (.aload_n 0, 1) := by decide +kernel
theorem dX9_next_37 : decode cX9_next 37 = .ok (.getfield 15, 3) := by decide +kernel
theorem dX9_next_40 : decode cX9_next 40 = .ok (.if_icmp .lt 11, 3) := by decide +kernel
theorem dX9_next_43 : decode cX9_next 43 = .ok (.aload_n 0, 1) := by decide +kernel
theorem dX9_next_44 : decode cX9_next 44 = .ok (.iconst 0, 1) := by decide +kernel
theorem dX9_next_45 : decode cX9_next 45 = .ok (.putfield 34, 3) := by decide +kernel
theorem dX9_next_48 : decode cX9_next 48 = .ok (.goto 183, 3) := by decide +kernel
theorem dX9_next_51 : decode cX9_next 51 = .ok (.iload_n 1, 1) := by decide +kernel
theorem dX9_next_52 : decode cX9_next 52 = .ok (.bipush 97, 2) := by decide +kernel
theorem dX9_next_54 : decode cX9_next 54 = .ok (.bipush 122, 2) := by decide +kernel
theorem dX9_next_56 : decode cX9_next 56 = .ok (.invokestatic 105, 3) := by decide +kernel
theorem dX9_next_59 : decode cX9_next 59 = .ok (.ifCond .eq 91, 3) := by decide +kernel
theorem dX9_next_62 : decode cX9_next 62 = .ok (.aload_n 0, 1) := by decide +kernel
theorem dX9_next_63 : decode cX9_next 63 = .ok (.aload_n 0, 1) := by decide +kernel
theorem dX9_next_64 : decode cX9_next 64 = .ok (.bipush 97, 2) := by decide +kernel
theorem dX9_next_66 : decode cX9_next 66 = .ok (.bipush 122, 2) := by decide +kernel
theorem dX9_next_68 : decode cX9_next 68 = .ok (.invokevirtual 109, 3) := by decide +kernel
theorem dX9_next_71 : decode cX9_next 71 = .ok (.putfield 28, 3) := by decide +kernel
theorem dX9_next_74 : decode cX9_next 74 = .ok (.aload_n 0, 1) := by decide +kernel
theorem dX9_next_75 : decode cX9_next 75 = .ok (.aload_n 0, 1) := by decide +kernel
theorem dX9_next_76 : decode cX9_next 76 = .ok (.ldc 116, 2) := by decide +kernel
theorem dX9_next_78 : decode cX9_next 78 = .ok (.invokevirtual 118, 3) := by decide +kernel
theorem dX9_next_81 : decode cX9_next 81 = .ok (.ifCond .eq 7, 3) := by decide +kernel
theorem dX9_next_84 : decode cX9_next 84 = .ok (.iconst 4, 1) := by decide +kernel
theorem dX9_next_85 : decode cX9_next 85 = .ok (.goto 59, 3) := by decide +kernel
theorem dX9_next_88 : decode cX9_next 88 = .ok (.aload_n 0, 1) := by decide +kernel
theorem dX9_next_89 : decode cX9_next 89 = .ok (.ldc 122, 2) := by decide +kernel
theorem dX9_next_91 : decode cX9_next 91 = .ok (.invokevirtual 118, 3) := by decide +kernel
theorem dX9_next_94 : decode cX9_next 94 = .ok (.ifCond .eq 7, 3) := by decide +kernel
theorem dX9_next_97 : decode cX9_next 97 = .ok (.iconst 5, 1) := by decide +kernel
theorem dX9_next_98 : decode cX9_next 98 = .ok (.goto 46, 3) := by decide +kernel
theorem dX9_next_101 : decode cX9_next 101 = .ok (.aload_n 0, 1) := by decide +kernel
theorem dX9_next_102 : decode cX9_next 102 = .ok (.ldc 124, 2) := by decide +kernel
theorem dX9_next_104 : decode cX9_next 104 = .ok (.invokevirtual 118, 3) := by decide +kernel
theorem dX9_next_107 : decode cX9_next 107 = .ok (.ifCond .eq 8, 3) := by decide +kernel
theorem dX9_next_110 : decode cX9_next 110 = .ok (.bipush 6, 2) := by decide +kernel
theorem dX9_next_112 : decode cX9_next 112 = .ok (.goto 32, 3) := by decide +kernel
theorem dX9_next_115 : decode cX9_next 115 = .ok (.aload_n 0, 1) := by decide +kernel
theorem dX9_next_116 : decode cX9_next 116 = .ok (.ldc 126, 2) := by decide +kernel
theorem dX9_next_118 : decode cX9_next 118 = .ok (.invokevirtual 118, 3) := by decide +kernel
theorem dX9_next_121 : decode cX9_next 121 = .ok (.ifCond .eq 8, 3) := by decide +kernel
theorem dX9_next_124 : decode cX9_next 124 = .ok (.bipush 7, 2) := by decide +kernel
theorem dX9_next_126 : decode cX9_next 126 = .ok (.goto 18, 3) := by decide +kernel
theorem dX9_next_129 : decode cX9_next 129 = .ok (.aload_n 0, 1) := by decide +kernel
theorem dX9_next_130 : decode cX9_next 130 = .ok (.ldc 128, 2) := by decide +kernel
theorem dX9_next_132 : decode cX9_next 132 = .ok (.invokevirtual 118, 3) := by decide +kernel
theorem dX9_next_135 : decode cX9_next 135 = .ok (.ifCond .eq 8, 3) := by decide +kernel
theorem dX9_next_138 : decode cX9_next 138 = .ok (.bipush 8, 2) := by decide +kernel
theorem dX9_next_140 : decode cX9_next 140 = .ok (.goto 4, 3) := by decide +kernel
theorem dX9_next_143 : decode cX9_next 143 = .ok (.iconst 1, 1) := by decide +kernel
theorem dX9_next_144 : decode cX9_next 144 = .ok (.putfield 34, 3) := by decide +kernel
theorem dX9_next_147 : decode cX9_next 147 = .ok (.goto 84, 3) := by decide +kernel
theorem dX9_next_150 : decode cX9_next 150 = .ok (.iload_n 1, 1) := by decide +kernel
theorem dX9_next_151 : decode cX9_next 151 = .ok (.bipush 48, 2) := by decide +kernel
theorem dX9_next_153 : decode cX9_next 153 = .ok (.bipush 57, 2) := by decide +kernel
theorem dX9_next_155 : decode cX9_next 155 = .ok (.invokestatic 105, 3) := by decide +kernel
theorem dX9_next_158 : decode cX9_next 158 = .ok (.ifCond .eq 48, 3) := by decide +kernel
theorem dX9_next_161 : decode cX9_next 161 = .ok (.aload_n 0, 1) := by decide +kernel
theorem dX9_next_162 : decode cX9_next 162 = .ok (.aload_n 0, 1) := by decide +kernel
theorem dX9_next_163 : decode cX9_next 163 = .ok (.bipush 48, 2) := by decide +kernel
theorem dX9_next_165 : decode cX9_next 165 = .ok (.bipush 57, 2) := by decide +kernel
theorem dX9_next_167 : decode cX9_next 167 = .ok (.invokevirtual 109, 3) := by decide +kernel
theorem dX9_next_170 : decode cX9_next 170 = .ok (.putfield 28, 3) := by decide +kernel
theorem dX9_next_173 : decode cX9_next 173 = .ok (.aload_n 0, 1) := by decide +kernel
theorem dX9_next_174 : decode cX9_next 174 = .ok (.aload_n 0, 1) := by decide +kernel
theorem dX9_next_175 : decode cX9_next 175 = .ok (.getfield 28, 3) := by decide +kernel
theorem dX9_next_178 : decode cX9_next 178 = .ok (.aload_n 0, 1) := by decide +kernel
theorem dX9_next_179 : decode cX9_next 179 = .ok (.getfield 84, 3) := by decide +kernel
theorem dX9_next_182 : decode cX9_next 182 = .ok (.isub, 1) := by decide +kernel
theorem dX9_next_183 : decode cX9_next 183 = .ok (.iconst 2, 1) := by decide +kernel
theorem dX9_next_184 : decode cX9_next 184 = .ok (.if_icmp .gt 7, 3) := by decide +kernel
theorem dX9_next_187 : decode cX9_next 187 = .ok (.iconst 2, 1) := by decide +kernel
theorem dX9_next_188 : decode cX9_next 188 = .ok (.goto 4, 3) := by decide +kernel
theorem dX9_next_191 : decode cX9_next 191 = .ok (.iconst 1, 1) := by decide +kernel
theorem dX9_next_192 : decode cX9_next 192 = .ok (.putfield 34, 3) := by decide +kernel
theorem dX9_next_195 : decode cX9_next 195 = .ok (.aload_n 0, 1) := by decide +kernel
theorem dX9_next_196 : decode cX9_next 196 = .ok (.aload_n 0, 1) := by decide +kernel
theorem dX9_next_197 : decode cX9_next 197 = .ok (.invokevirtual 130, 3) := by decide +kernel
theorem dX9_next_200 : decode cX9_next 200 = .ok (.putfield 59, 3) := by decide +kernel
theorem dX9_next_203 : decode cX9_next 203 = .ok (.goto 28, 3) := by decide +kernel
theorem dX9_next_206 : decode cX9_next 206 = .ok (.aload_n 0, 1) := by decide +kernel
theorem dX9_next_207 : decode cX9_next 207 = .ok (.aload_n 0, 1) := by decide +kernel
theorem dX9_next_208 : decode cX9_next 208 = .ok (.getfield 84, 3) := by decide +kernel
theorem dX9_next_211 : decode cX9_next 211 = .ok (.iconst 1, 1) := by decide +kernel
theorem dX9_next_212 : decode cX9_next 212 = .ok (.iadd, 1) := by decide +kernel
theorem dX9_next_213 : decode cX9_next 213 = .ok (.putfield 28, 3) := by decide +kernel
theorem dX9_next_216 : decode cX9_next 216 = .ok (.aload_n 0, 1) := by decide +kernel
theorem dX9_next_217 : decode cX9_next 217 = .ok (.iload_n 1, 1) := by decide +kernel
theorem dX9_next_218 : decode cX9_next 218 = .ok (.bipush 59, 2) := by decide +kernel
theorem dX9_next_220 : decode cX9_next 220 = .ok (.if_icmp .ne 7, 3) := by decide +kernel
theorem dX9_next_223 : decode cX9_next 223 = .ok (.iconst 3, 1) := by decide +kernel
theorem dX9_next_224 : decode cX9_next 224 = .ok (.goto 4, 3) := by decide +kernel
theorem dX9_next_227 : decode cX9_next 227 = .ok (.iconst 1, 1) := by decide +kernel
theorem dX9_next_228 : decode cX9_next 228 = .ok (.putfield 34, 3) := by decide +kernel
theorem dX9_next_231 : decode cX9_next 231 = .ok (.return_, 1) := by decide +kernel
set_option maxRecDepth 20000 in
theorem ggX9_behind_X11_cell : GoodIn wsX9_behind wsX11_cell := goodIn_r _ [6] (by decide +kernel) (by decide +kernel)
set_option maxRecDepth 20000 in
theorem gX9_behind_X11_cell_n112 : GoodIn wsX9_behind (wsX11_cell) := ggX9_behind_X11_cell
set_option maxRecDepth 20000 in
theorem ggX9_behind_X11_within : GoodIn wsX9_behind wsX11_within := goodIn_r _ [8] (by decide +kernel) (by decide +kernel)
set_option maxRecDepth 20000 in
theorem gX9_behind_X11_within_n105 : GoodIn wsX9_behind (wsX11_within) := ggX9_behind_X11_within
theorem dX9_behind_0 : decode cX9_behind 0 = .ok (.aload_n 0, 1) := by decide +kernel
theorem dX9_behind_1 : decode cX9_behind 1 = .ok (.getfield 28, 3) := by decide +kernel
theorem dX9_behind_4 : decode cX9_behind 4 = .ok (.istore_n 3, 1) := by decide +kernel
theorem dX9_behind_5 : decode cX9_behind 5 = .ok (.iload_n 3, 1) := by decide +kernel
theorem dX9_behind_6 : decode cX9_behind 6 = .ok (.aload_n 0, 1) := by decide +kernel
theorem dX9_behind_7 : decode cX9_behind 7 = .ok (.getfield 15, 3) := by decide +kernel
theorem dX9_behind_10 : decode cX9_behind 10 = .ok (.if_icmp .ge 25, 3) := by decide +kernel
theorem dX9_behind_13 : decode cX9_behind 13 = .ok (.aload_n 0, 1) := by decide +kernel
theorem dX9_behind_14 : decode cX9_behind 14 = .ok (.getfield 9, 3) := by decide +kernel
theorem dX9_behind_17 : decode cX9_behind 17 = .ok (.iload_n 3, 1) := by decide +kernel
theorem dX9_behind_18 : decode cX9_behind 18 = .ok (.invokestatic 112, 3) := by decide +kernel
theorem dX9_behind_21 : decode cX9_behind 21 = .ok (.iload_n 1, 1) := by decide +kernel
theorem dX9_behind_22 : decode cX9_behind 22 = .ok (.iload_n 2, 1) := by decide +kernel
theorem dX9_behind_23 : decode cX9_behind 23 = .ok (.invokestatic 105, 3) := by decide +kernel
theorem dX9_behind_26 : decode cX9_behind 26 = .ok (.ifCond .eq 9, 3) := by decide +kernel
theorem dX9_behind_29 : decode cX9_behind 29 = .ok (.iinc 3 1, 3) := by decide +kernel
theorem dX9_behind_32 : decode cX9_behind 32 = .ok (.goto (-27), 3) := by decide +kernel
theorem dX9_behind_35 : decode cX9_behind 35 = .ok (.iload_n 3, 1) := by decide +kernel
theorem dX9_behind_36 : decode cX9_behind 36 = .ok (.ireturn, 1) := by decide +kernel
set_option maxRecDepth 20000 in
theorem ggX9_numberAt_X11_cell : GoodIn wsX9_numberAt wsX11_cell := goodIn_r _ [6] (by decide +kernel) (by decide +kernel)
set_option maxRecDepth 20000 in
theorem gX9_numberAt_X11_cell_n112 : GoodIn wsX9_numberAt (wsX11_cell) := ggX9_numberAt_X11_cell
theorem dX9_numberAt_0 : decode cX9_numberAt 0 = .ok (.iconst 0, 1) := by decide +kernel
theorem dX9_numberAt_1 : decode cX9_numberAt 1 = .ok (.istore_n 1, 1) := by decide +kernel
theorem dX9_numberAt_2 : decode cX9_numberAt 2 = .ok (.aload_n 0, 1) := by decide +kernel
theorem dX9_numberAt_3 : decode cX9_numberAt 3 = .ok (.getfield 84, 3) := by decide +kernel
theorem dX9_numberAt_6 : decode cX9_numberAt 6 = .ok (.istore_n 2, 1) := by decide +kernel
theorem dX9_numberAt_7 : decode cX9_numberAt 7 = .ok (.iload_n 2, 1) := by decide +kernel
theorem dX9_numberAt_8 : decode cX9_numberAt 8 = .ok (.aload_n 0, 1) := by decide +kernel
theorem dX9_numberAt_9 : decode cX9_numberAt 9 = .ok (.getfield 28, 3) := by decide +kernel
theorem dX9_numberAt_12 : decode cX9_numberAt 12 = .ok (.if_icmp .ge 36, 3) := by decide +kernel
theorem dX9_numberAt_15 : decode cX9_numberAt 15 = .ok (.iload_n 2, 1) := by decide +kernel
theorem dX9_numberAt_16 : decode cX9_numberAt 16 = .ok (.aload_n 0, 1) := by decide +kernel
theorem dX9_numberAt_17 : decode cX9_numberAt 17 = .ok (.getfield 84, 3) := by decide +kernel
theorem dX9_numberAt_20 : decode cX9_numberAt 20 = .ok (.iconst 2, 1) := by decide +kernel
theorem dX9_numberAt_21 : decode cX9_numberAt 21 = .ok (.iadd, 1) := by decide +kernel
theorem dX9_numberAt_22 : decode cX9_numberAt 22 = .ok (.if_icmp .ge 26, 3) := by decide +kernel
theorem dX9_numberAt_25 : decode cX9_numberAt 25 = .ok (.bipush 10, 2) := by decide +kernel
theorem dX9_numberAt_27 : decode cX9_numberAt 27 = .ok (.iload_n 1, 1) := by decide +kernel
theorem dX9_numberAt_28 : decode cX9_numberAt 28 = .ok (.imul, 1) := by decide +kernel
theorem dX9_numberAt_29 : decode cX9_numberAt 29 = .ok (.aload_n 0, 1) := by decide +kernel
theorem dX9_numberAt_30 : decode cX9_numberAt 30 = .ok (.getfield 9, 3) := by decide +kernel
theorem dX9_numberAt_33 : decode cX9_numberAt 33 = .ok (.iload_n 2, 1) := by decide +kernel
theorem dX9_numberAt_34 : decode cX9_numberAt 34 = .ok (.invokestatic 112, 3) := by decide +kernel
theorem dX9_numberAt_37 : decode cX9_numberAt 37 = .ok (.iadd, 1) := by decide +kernel
theorem dX9_numberAt_38 : decode cX9_numberAt 38 = .ok (.bipush 48, 2) := by decide +kernel
theorem dX9_numberAt_40 : decode cX9_numberAt 40 = .ok (.isub, 1) := by decide +kernel
theorem dX9_numberAt_41 : decode cX9_numberAt 41 = .ok (.istore_n 1, 1) := by decide +kernel
theorem dX9_numberAt_42 : decode cX9_numberAt 42 = .ok (.iinc 2 1, 3) := by decide +kernel
theorem dX9_numberAt_45 : decode cX9_numberAt 45 = .ok (.goto (-38), 3) := by decide +kernel
theorem dX9_numberAt_48 : decode cX9_numberAt 48 = .ok (.iload_n 1, 1) := by decide +kernel
theorem dX9_numberAt_49 : decode cX9_numberAt 49 = .ok (.ireturn, 1) := by decide +kernel
set_option maxRecDepth 20000 in
theorem ggX9_isWord_J0_length_8abf5 : GoodIn wsX9_isWord wsJ0_length_8abf5 := goodIn_r _ [8, 9, 10, 11, 12, 7, 13, 14, 15] (by decide +kernel) (by decide +kernel)
set_option maxRecDepth 20000 in
theorem gX9_isWord_J0_length_8abf5 : GoodIn wsX9_isWord (wsV RX9 133 RJ0 yJ0_length_8abf5 wsJ0_length_8abf5) := goodIn_app (goodIn_of _ (by decide +kernel)) ggX9_isWord_J0_length_8abf5
set_option maxRecDepth 20000 in
theorem ggX9_isWord_X11_cell : GoodIn wsX9_isWord wsX11_cell := goodIn_r _ [18] (by decide +kernel) (by decide +kernel)
set_option maxRecDepth 20000 in
theorem gX9_isWord_X11_cell_n112 : GoodIn wsX9_isWord (wsX11_cell) := ggX9_isWord_X11_cell
set_option maxRecDepth 20000 in
theorem ggX9_isWord_J0_charAt_5068e : GoodIn wsX9_isWord wsJ0_charAt_5068e := goodIn_r _ [22, 9, 23, 24, 25, 7, 26, 14, 15, 27, 28, 29, 30, 31, 32, 33, 34, 35, 36, 37, 38, 39, 40, 41, 42, 43, 44, 45, 46, 47, 48, 49, 50, 51, 52, 53, 54, 55] (by decide +kernel) (by decide +kernel)
set_option maxRecDepth 20000 in
theorem gX9_isWord_J0_charAt_5068e : GoodIn wsX9_isWord (wsV RX9 137 RJ0 yJ0_charAt_5068e wsJ0_charAt_5068e) := goodIn_app (goodIn_of _ (by decide +kernel)) ggX9_isWord_J0_charAt_5068e
theorem dX9_isWord_0 : decode cX9_isWord 0 = .ok (.aload_n 0, 1) := by decide +kernel
theorem dX9_isWord_1 : decode cX9_isWord 1 = .ok (.getfield 28, 3) := by decide +kernel
theorem dX9_isWord_4 : decode cX9_isWord 4 = .ok (.aload_n 0, 1) := by decide +kernel
theorem dX9_isWord_5 : decode cX9_isWord 5 = .ok (.getfield 84, 3) := by decide +kernel
theorem dX9_isWord_8 : decode cX9_isWord 8 = .ok (.isub, 1) := by decide +kernel
theorem dX9_isWord_9 : decode cX9_isWord 9 = .ok (.aload_n 1, 1) := by decide +kernel
theorem dX9_isWord_10 : decode cX9_isWord 10 = .ok (.invokevirtual 133, 3) := by decide +kernel
theorem dX9_isWord_13 : decode cX9_isWord 13 = .ok (.if_icmp .ne 7, 3) := by decide +kernel
theorem dX9_isWord_16 : decode cX9_isWord 16 = .ok (.iconst 1, 1) := by decide +kernel
theorem dX9_isWord_17 : decode cX9_isWord 17 = .ok (.goto 4, 3) := by decide +kernel
theorem dX9_isWord_20 : decode cX9_isWord 20 = .ok (.iconst 0, 1) := by decide +kernel
theorem dX9_isWord_21 : decode cX9_isWord 21 = .ok (.istore_n 2, 1) := by decide +kernel
theorem dX9_isWord_22 : decode cX9_isWord 22 = .ok (.iconst 0, 1) := by decide +kernel
theorem dX9_isWord_23 : decode cX9_isWord 23 = .ok (.istore_n 3, 1) := by decide +kernel
theorem dX9_isWord_24 : decode cX9_isWord 24 = .ok (.iload_n 2, 1) := by decide +kernel
theorem dX9_isWord_25 : decode cX9_isWord 25 = .ok (.ifCond .eq 44, 3) := by decide +kernel
theorem dX9_isWord_28 : decode cX9_isWord 28 = .ok (.iload_n 3, 1) := by decide +kernel
theorem dX9_isWord_29 : decode cX9_isWord 29 = .ok (.aload_n 1, 1) := by decide +kernel
theorem dX9_isWord_30 : decode cX9_isWord 30 = .ok (.invokevirtual 133, 3) := by decide +kernel
theorem dX9_isWord_33 : decode cX9_isWord 33 = .ok (.if_icmp .ge 36, 3) := by decide +kernel
theorem dX9_isWord_36 : decode cX9_isWord 36 = .ok (.aload_n 0, 1) := by decide +kernel
theorem dX9_isWord_37 : decode cX9_isWord 37 = .ok (.getfield 9, 3) := by decide +kernel
theorem dX9_isWord_40 : decode cX9_isWord 40 = .ok (.aload_n 0, 1) := by decide +kernel
theorem dX9_isWord_41 : decode cX9_isWord 41 = .ok (.getfield 84, 3) := by decide +kernel
theorem dX9_isWord_44 : decode cX9_isWord 44 = .ok (.iload_n 3, 1) := by decide +kernel
theorem dX9_isWord_45 : decode cX9_isWord 45 = .ok (.iadd, 1) := by decide +kernel
theorem dX9_isWord_46 : decode cX9_isWord 46 = .ok (.invokestatic 112, 3) := by decide +kernel
theorem dX9_isWord_49 : decode cX9_isWord 49 = .ok (.aload_n 1, 1) := by decide +kernel
theorem dX9_isWord_50 : decode cX9_isWord 50 = .ok (.iload_n 3, 1) := by decide +kernel
theorem dX9_isWord_51 : decode cX9_isWord 51 = .ok (.invokevirtual 137, 3) := by decide +kernel
theorem dX9_isWord_54 : decode cX9_isWord 54 = .ok (.if_icmp .ne 7, 3) := by decide +kernel
theorem dX9_isWord_57 : decode cX9_isWord 57 = .ok (.iconst 1, 1) := by decide +kernel
theorem dX9_isWord_58 : decode cX9_isWord 58 = .ok (.goto 4, 3) := by decide +kernel
theorem dX9_isWord_61 : decode cX9_isWord 61 = .ok (.iconst 0, 1) := by decide +kernel
theorem dX9_isWord_62 : decode cX9_isWord 62 = .ok (.istore_n 2, 1) := by decide +kernel
theorem dX9_isWord_63 : decode cX9_isWord 63 = .ok (.iinc 3 1, 3) := by decide +kernel
theorem dX9_isWord_66 : decode cX9_isWord 66 = .ok (.goto (-42), 3) := by decide +kernel
theorem dX9_isWord_69 : decode cX9_isWord 69 = .ok (.iload_n 2, 1) := by decide +kernel
theorem dX9_isWord_70 : decode cX9_isWord 70 = .ok (.ireturn, 1) := by decide +kernel
theorem dX10_init_0 : decode cX10_init 0 = .ok (.aload_n 0, 1) := by decide +kernel
theorem dX10_init_1 : decode cX10_init 1 = .ok (.invokespecial 3, 3) := by decide +kernel
theorem dX10_init_4 : decode cX10_init 4 = .ok (.aload_n 0, 1) := by decide +kernel
theorem dX10_init_5 : decode cX10_init 5 = .ok (.bipush 7, 2) := by decide +kernel
theorem dX10_init_7 : decode cX10_init 7 = .ok (.newarray .int, 2) := by decide +kernel
theorem dX10_init_9 : decode cX10_init 9 = .ok (.putfield 9, 3) := by decide +kernel
theorem dX10_init_12 : decode cX10_init 12 = .ok (.return_, 1) := by decide +kernel
set_option maxRecDepth 20000 in
theorem ggX10_spread_X11_setCell : GoodIn wsX10_spread wsX11_setCell := goodIn_r _ [4] (by decide +kernel) (by decide +kernel)
set_option maxRecDepth 20000 in
theorem gX10_spread_X11_setCell_n15 : GoodIn wsX10_spread (wsX11_setCell) := ggX10_spread_X11_setCell
set_option maxRecDepth 20000 in
theorem ggX10_spread_X7_size : GoodIn wsX10_spread wsX7_size := goodIn_r _ [9, 10, 36, 37, 38, 39] (by decide +kernel) (by decide +kernel)
set_option maxRecDepth 20000 in
theorem gX10_spread_X7_size : GoodIn wsX10_spread (wsV RX10 19 RX7 yX7_size wsX7_size) := goodIn_app (goodIn_of _ (by decide +kernel)) ggX10_spread_X7_size
set_option maxRecDepth 20000 in
theorem ggX10_spread_X7_get : GoodIn wsX10_spread wsX7_get := goodIn_r _ [14, 10, 15, 16, 36, 37, 38, 39] (by decide +kernel) (by decide +kernel)
set_option maxRecDepth 20000 in
theorem gX10_spread_X7_get : GoodIn wsX10_spread (wsV RX10 25 RX7 yX7_get wsX7_get) := goodIn_app (goodIn_of _ (by decide +kernel)) ggX10_spread_X7_get
set_option maxRecDepth 20000 in
theorem ggX10_spread_X10_pass : GoodIn wsX10_spread wsX10_pass := goodIn_r _ [21, 1, 22, 3, 23, 11, 12, 13, 8, 14, 10, 15, 16, 24, 25, 26, 27, 28, 29, 30, 31, 32, 33, 34, 2, 4, 35, 36, 37, 38, 39] (by decide +kernel) (by decide +kernel)
set_option maxRecDepth 20000 in
theorem gX10_spread_X10_pass : GoodIn wsX10_spread (wsV RX10 29 RX10 yX10_pass wsX10_pass) := goodIn_app (goodIn_of _ (by decide +kernel)) ggX10_spread_X10_pass
theorem dX10_spread_0 : decode cX10_spread 0 = .ok (.iconst 0, 1) := by decide +kernel
theorem dX10_spread_1 : decode cX10_spread 1 = .ok (.istore 4, 2) := by decide +kernel
theorem dX10_spread_3 : decode cX10_spread 3 = .ok (.iload 4, 2) := by decide +kernel
theorem dX10_spread_5 : decode cX10_spread 5 = .ok (.bipush 7, 2) := by decide +kernel
theorem dX10_spread_7 : decode cX10_spread 7 = .ok (.if_icmp .ge 29, 3) := by decide +kernel
theorem dX10_spread_10 : decode cX10_spread 10 = .ok (.aload_n 0, 1) := by decide +kernel
theorem dX10_spread_11 : decode cX10_spread 11 = .ok (.getfield 9, 3) := by decide +kernel
theorem dX10_spread_14 : decode cX10_spread 14 = .ok (.iload 4, 2) := by decide +kernel
theorem dX10_spread_16 : decode cX10_spread 16 = .ok (.iload 4, 2) := by decide +kernel
theorem dX10_spread_18 : decode cX10_spread 18 = .ok (.iload_n 2, 1) := by decide +kernel
theorem dX10_spread_19 : decode cX10_spread 19 = .ok (.if_icmp .ne 7, 3) := by decide +kernel
theorem dX10_spread_22 : decode cX10_spread 22 = .ok (.iload_n 3, 1) := by decide +kernel
theorem dX10_spread_23 : decode cX10_spread 23 = .ok (.goto 4, 3) := by decide +kernel
theorem dX10_spread_26 : decode cX10_spread 26 = .ok (.iconst 0, 1) := by decide +kernel
theorem dX10_spread_27 : decode cX10_spread 27 = .ok (.invokestatic 15, 3) := by decide +kernel
theorem dX10_spread_30 : decode cX10_spread 30 = .ok (.iinc 4 1, 3) := by decide +kernel
theorem dX10_spread_33 : decode cX10_spread 33 = .ok (.goto (-30), 3) := by decide +kernel
theorem dX10_spread_36 : decode cX10_spread 36 = .ok (.iconst 1, 1) := by decide +kernel
theorem dX10_spread_37 : decode cX10_spread 37 = .ok (.istore 4, 2) := by decide +kernel
theorem dX10_spread_39 : decode cX10_spread 39 = .ok (.iconst 1, 1) := by decide +kernel
theorem dX10_spread_40 : decode cX10_spread 40 = .ok (.istore 5, 2) := by decide +kernel
theorem dX10_spread_42 : decode cX10_spread 42 = .ok (.iload 5, 2) := by decide +kernel
theorem dX10_spread_44 : decode cX10_spread 44 = .ok (.aload_n 1, 1) := by decide +kernel
theorem dX10_spread_45 : decode cX10_spread 45 = .ok (.invokevirtual 19, 3) := by decide +kernel
theorem dX10_spread_48 : decode cX10_spread 48 = .ok (.if_icmp .ge 74, 3) := by decide +kernel
theorem dX10_spread_51 : decode cX10_spread 51 = .ok (.iload 4, 2) := by decide +kernel
theorem dX10_spread_53 : decode cX10_spread 53 = .ok (.ifCond .eq 69, 3) := by decide +kernel
theorem dX10_spread_56 : decode cX10_spread 56 = .ok (.iconst 0, 1) := by decide +kernel
theorem dX10_spread_57 : decode cX10_spread 57 = .ok (.istore 4, 2) := by decide +kernel
theorem dX10_spread_59 : decode cX10_spread 59 = .ok (.iconst 0, 1) := by decide +kernel
theorem dX10_spread_60 : decode cX10_spread 60 = .ok (.istore 6, 2) := by decide +kernel
theorem dX10_spread_62 : decode cX10_spread 62 = .ok (.iload 6, 2) := by decide +kernel
theorem dX10_spread_64 : decode cX10_spread 64 = .ok (.aload_n 1, 1) := by decide +kernel
theorem dX10_spread_65 : decode cX10_spread 65 = .ok (.invokevirtual 19, 3) := by decide +kernel
theorem dX10_spread_68 : decode cX10_spread 68 = .ok (.if_icmp .ge 48, 3) := by decide +kernel
theorem dX10_spread_71 : decode cX10_spread 71 = .ok (.aload_n 1, 1) := by decide +kernel
theorem dX10_spread_72 : decode cX10_spread 72 = .ok (.iload 6, 2) := by decide +kernel
theorem dX10_spread_74 : decode cX10_spread 74 = .ok (.iconst 4, 1) := by decide +kernel
theorem dX10_spread_75 : decode cX10_spread 75 = .ok (.invokevirtual 25, 3) := by decide +kernel
theorem dX10_spread_78 : decode cX10_spread 78 = .ok (.istore 7, 2) := by decide +kernel
theorem dX10_spread_80 : decode cX10_spread 80 = .ok (.iload 7, 2) := by decide +kernel
theorem dX10_spread_82 : decode cX10_spread 82 = .ok (.iconst (-1), 1) := by decide +kernel
theorem dX10_spread_83 : decode cX10_spread 83 = .ok (.if_icmp .eq 27, 3) := by decide +kernel
theorem dX10_spread_86 : decode cX10_spread 86 = .ok (.iload 4, 2) := by decide +kernel
theorem dX10_spread_88 : decode cX10_spread 88 = .ok (.aload_n 0, 1) := by decide +kernel
theorem dX10_spread_89 : decode cX10_spread 89 = .ok (.aload_n 1, 1) := by decide +kernel
theorem dX10_spread_90 : decode cX10_spread 90 = .ok (.iload 6, 2) := by decide +kernel
theorem dX10_spread_92 : decode cX10_spread 92 = .ok (.iload 7, 2) := by decide +kernel
theorem dX10_spread_94 : decode cX10_spread 94 = .ok (.invokevirtual 29, 3) := by decide +kernel
theorem dX10_spread_97 : decode cX10_spread 97 = .ok (.aload_n 0, 1) := by decide +kernel
theorem dX10_spread_98 : decode cX10_spread 98 = .ok (.aload_n 1, 1) := by decide +kernel
theorem dX10_spread_99 : decode cX10_spread 99 = .ok (.iload 7, 2) := by decide +kernel
theorem dX10_spread_101 : decode cX10_spread 101 = .ok (.iload 6, 2) := by decide +kernel
theorem dX10_spread_103 : decode cX10_spread 103 = .ok (.invokevirtual 29, 3) := by decide +kernel
theorem dX10_spread_106 : decode cX10_spread 106 = .ok (.ior, 1) := by decide +kernel
theorem dX10_spread_107 : decode cX10_spread 107 = .ok (.ior, 1) := by decide +kernel
theorem dX10_spread_108 : decode cX10_spread 108 = .ok (.istore 4, 2) := by decide +kernel
theorem dX10_spread_110 : decode cX10_spread 110 = .ok (.iinc 6 1, 3) := by decide +kernel
theorem dX10_spread_113 : decode cX10_spread 113 = .ok (.goto (-51), 3) := by decide +kernel
theorem dX10_spread_116 : decode cX10_spread 116 = .ok (.iinc 5 1, 3) := by decide +kernel
theorem dX10_spread_119 : decode cX10_spread 119 = .ok (.goto (-77), 3) := by decide +kernel
theorem dX10_spread_122 : decode cX10_spread 122 = .ok (.return_, 1) := by decide +kernel
set_option maxRecDepth 20000 in
theorem ggX10_pass_X11_cell : GoodIn wsX10_pass wsX11_cell := goodIn_r _ [4] (by decide +kernel) (by decide +kernel)
set_option maxRecDepth 20000 in
theorem gX10_pass_X11_cell_n33 : GoodIn wsX10_pass (wsX11_cell) := ggX10_pass_X11_cell
set_option maxRecDepth 20000 in
theorem ggX10_pass_X7_get : GoodIn wsX10_pass wsX7_get := goodIn_r _ [9, 10, 11, 12, 27, 28, 29, 30] (by decide +kernel) (by decide +kernel)
set_option maxRecDepth 20000 in
theorem gX10_pass_X7_get : GoodIn wsX10_pass (wsV RX10 25 RX7 yX7_get wsX7_get) := goodIn_app (goodIn_of _ (by decide +kernel)) ggX10_pass_X7_get
set_option maxRecDepth 20000 in
theorem ggX10_pass_X4_letsGo : GoodIn wsX10_pass wsX4_letsGo := goodIn_r _ [16, 17, 18, 19, 20, 21, 22, 23] (by decide +kernel) (by decide +kernel)
set_option maxRecDepth 20000 in
theorem gX10_pass_X4_letsGo : GoodIn wsX10_pass (va_wsS RX10 37 yX4_letsGo wsX4_letsGo) := goodIn_app (goodIn_of _ (by decide +kernel)) ggX10_pass_X4_letsGo
set_option maxRecDepth 20000 in
theorem ggX10_pass_X11_setCell : GoodIn wsX10_pass wsX11_setCell := goodIn_r _ [25] (by decide +kernel) (by decide +kernel)
set_option maxRecDepth 20000 in
theorem gX10_pass_X11_setCell_n15 : GoodIn wsX10_pass (wsX11_setCell) := ggX10_pass_X11_setCell
theorem dX10_pass_0 : decode cX10_pass 0 = .ok (.aload_n 0, 1) := by decide +kernel
theorem dX10_pass_1 : decode cX10_pass 1 = .ok (.getfield 9, 3) := by decide +kernel
theorem dX10_pass_4 : decode cX10_pass 4 = .ok (.iload_n 2, 1) := by decide +kernel
theorem dX10_pass_5 : decode cX10_pass 5 = .ok (.invokestatic 33, 3) := by decide +kernel
theorem dX10_pass_8 : decode cX10_pass 8 = .ok (.istore 4, 2) := by decide +kernel
theorem dX10_pass_10 : decode cX10_pass 10 = .ok (.iload 4, 2) := by decide +kernel
theorem dX10_pass_12 : decode cX10_pass 12 = .ok (.ifCond .eq 14, 3) := by decide +kernel
theorem dX10_pass_15 : decode cX10_pass 15 = .ok (.aload_n 0, 1) := by decide +kernel
theorem dX10_pass_16 : decode cX10_pass 16 = .ok (.getfield 9, 3) := by decide +kernel
theorem dX10_pass_19 : decode cX10_pass 19 = .ok (.iload_n 3, 1) := by decide +kernel
theorem dX10_pass_20 : decode cX10_pass 20 = .ok (.invokestatic 33, 3) := by decide +kernel
theorem dX10_pass_23 : decode cX10_pass 23 = .ok (.ifCond .le 5, 3) := by decide +kernel
theorem dX10_pass_26 : decode cX10_pass 26 = .ok (.iconst 0, 1) := by decide +kernel
theorem dX10_pass_27 : decode cX10_pass 27 = .ok (.ireturn, 1) := by decide +kernel
theorem dX10_pass_28 : decode cX10_pass 28 = .ok (.aload_n 1, 1) := by decide +kernel
theorem dX10_pass_29 : decode cX10_pass 29 = .ok (.iload_n 2, 1) := by decide +kernel
theorem dX10_pass_30 : decode cX10_pass 30 = .ok (.iconst 0, 1) := by decide +kernel
theorem dX10_pass_31 : decode cX10_pass 31 = .ok (.invokevirtual 25, 3) := by decide +kernel
theorem dX10_pass_34 : decode cX10_pass 34 = .ok (.iload 4, 2) := by decide +kernel
theorem dX10_pass_36 : decode cX10_pass 36 = .ok (.aload_n 1, 1) := by decide +kernel
theorem dX10_pass_37 : decode cX10_pass 37 = .ok (.iload_n 2, 1) := by decide +kernel
theorem dX10_pass_38 : decode cX10_pass 38 = .ok (.iconst 3, 1) := by decide +kernel
theorem dX10_pass_39 : decode cX10_pass 39 = .ok (.invokevirtual 25, 3) := by decide +kernel
theorem dX10_pass_42 : decode cX10_pass 42 = .ok (.invokestatic 37, 3) := by decide +kernel
theorem dX10_pass_45 : decode cX10_pass 45 = .ok (.istore 5, 2) := by decide +kernel
theorem dX10_pass_47 : decode cX10_pass 47 = .ok (.aload_n 0, 1) := by decide +kernel
theorem dX10_pass_48 : decode cX10_pass 48 = .ok (.getfield 9, 3) := by decide +kernel
theorem dX10_pass_51 : decode cX10_pass 51 = .ok (.iload_n 3, 1) := by decide +kernel
theorem dX10_pass_52 : decode cX10_pass 52 = .ok (.iload 5, 2) := by decide +kernel
theorem dX10_pass_54 : decode cX10_pass 54 = .ok (.invokestatic 15, 3) := by decide +kernel
theorem dX10_pass_57 : decode cX10_pass 57 = .ok (.iload 5, 2) := by decide +kernel
theorem dX10_pass_59 : decode cX10_pass 59 = .ok (.ifCond .le 7, 3) := by decide +kernel
theorem dX10_pass_62 : decode cX10_pass 62 = .ok (.iconst 1, 1) := by decide +kernel
theorem dX10_pass_63 : decode cX10_pass 63 = .ok (.goto 4, 3) := by decide +kernel
theorem dX10_pass_66 : decode cX10_pass 66 = .ok (.iconst 0, 1) := by decide +kernel
theorem dX10_pass_67 : decode cX10_pass 67 = .ok (.ireturn, 1) := by decide +kernel
set_option maxRecDepth 20000 in
theorem ggX10_feltBy_X11_cell : GoodIn wsX10_feltBy wsX11_cell := goodIn_r _ [4] (by decide +kernel) (by decide +kernel)
set_option maxRecDepth 20000 in
theorem gX10_feltBy_X11_cell_n33 : GoodIn wsX10_feltBy (wsX11_cell) := ggX10_feltBy_X11_cell
theorem dX10_feltBy_0 : decode cX10_feltBy 0 = .ok (.aload_n 0, 1) := by decide +kernel
theorem dX10_feltBy_1 : decode cX10_feltBy 1 = .ok (.getfield 9, 3) := by decide +kernel
theorem dX10_feltBy_4 : decode cX10_feltBy 4 = .ok (.iload_n 1, 1) := by decide +kernel
theorem dX10_feltBy_5 : decode cX10_feltBy 5 = .ok (.invokestatic 33, 3) := by decide +kernel
theorem dX10_feltBy_8 : decode cX10_feltBy 8 = .ok (.ireturn, 1) := by decide +kernel
set_option maxRecDepth 20000 in
theorem ggX10_whoFeel_X11_cell : GoodIn wsX10_whoFeel wsX11_cell := goodIn_r _ [4] (by decide +kernel) (by decide +kernel)
set_option maxRecDepth 20000 in
theorem gX10_whoFeel_X11_cell_n33 : GoodIn wsX10_whoFeel (wsX11_cell) := ggX10_whoFeel_X11_cell
theorem dX10_whoFeel_0 : decode cX10_whoFeel 0 = .ok (.iconst 0, 1) := by decide +kernel
theorem dX10_whoFeel_1 : decode cX10_whoFeel 1 = .ok (.istore_n 1, 1) := by decide +kernel
theorem dX10_whoFeel_2 : decode cX10_whoFeel 2 = .ok (.iconst 0, 1) := by decide +kernel
theorem dX10_whoFeel_3 : decode cX10_whoFeel 3 = .ok (.istore_n 2, 1) := by decide +kernel
theorem dX10_whoFeel_4 : decode cX10_whoFeel 4 = .ok (.iload_n 2, 1) := by decide +kernel
theorem dX10_whoFeel_5 : decode cX10_whoFeel 5 = .ok (.bipush 7, 2) := by decide +kernel
theorem dX10_whoFeel_7 : decode cX10_whoFeel 7 = .ok (.if_icmp .ge 30, 3) := by decide +kernel
theorem dX10_whoFeel_10 : decode cX10_whoFeel 10 = .ok (.iload_n 1, 1) := by decide +kernel
theorem dX10_whoFeel_11 : decode cX10_whoFeel 11 = .ok (.aload_n 0, 1) := by decide +kernel
theorem dX10_whoFeel_12 : decode cX10_whoFeel 12 = .ok (.getfield 9, 3) := by decide +kernel
theorem dX10_whoFeel_15 : decode cX10_whoFeel 15 = .ok (.iload_n 2, 1) := by decide +kernel
theorem dX10_whoFeel_16 : decode cX10_whoFeel 16 = .ok (.invokestatic 33, 3) := by decide +kernel
theorem dX10_whoFeel_19 : decode cX10_whoFeel 19 = .ok (.ifCond .le 9, 3) := by decide +kernel
theorem dX10_whoFeel_22 : decode cX10_whoFeel 22 = .ok (.iconst 1, 1) := by decide +kernel
theorem dX10_whoFeel_23 : decode cX10_whoFeel 23 = .ok (.iload_n 2, 1) := by decide +kernel
theorem dX10_whoFeel_24 : decode cX10_whoFeel 24 = .ok (.ishl, 1) := by decide +kernel
theorem dX10_whoFeel_25 : decode cX10_whoFeel 25 = .ok (.goto 4, 3) := by decide +kernel
theorem dX10_whoFeel_28 : decode cX10_whoFeel 28 = .ok (.iconst 0, 1) := by decide +kernel
theorem dX10_whoFeel_29 : decode cX10_whoFeel 29 = .ok (.ior, 1) := by decide +kernel
theorem dX10_whoFeel_30 : decode cX10_whoFeel 30 = .ok (.istore_n 1, 1) := by decide +kernel
theorem dX10_whoFeel_31 : decode cX10_whoFeel 31 = .ok (.iinc 2 1, 3) := by decide +kernel
theorem dX10_whoFeel_34 : decode cX10_whoFeel 34 = .ok (.goto (-30), 3) := by decide +kernel
theorem dX10_whoFeel_37 : decode cX10_whoFeel 37 = .ok (.iload_n 1, 1) := by decide +kernel
theorem dX10_whoFeel_38 : decode cX10_whoFeel 38 = .ok (.ireturn, 1) := by decide +kernel
set_option maxRecDepth 20000 in
theorem ggX10_agrees_X7_size : GoodIn wsX10_agrees wsX7_size := goodIn_r _ [5, 6, 43, 44, 45, 46] (by decide +kernel) (by decide +kernel)
set_option maxRecDepth 20000 in
theorem gX10_agrees_X7_size : GoodIn wsX10_agrees (wsV RX10 19 RX7 yX7_size wsX7_size) := goodIn_app (goodIn_of _ (by decide +kernel)) ggX10_agrees_X7_size
set_option maxRecDepth 20000 in
theorem ggX10_agrees_X7_get : GoodIn wsX10_agrees wsX7_get := goodIn_r _ [10, 6, 11, 12, 43, 44, 45, 46] (by decide +kernel) (by decide +kernel)
set_option maxRecDepth 20000 in
theorem gX10_agrees_X7_get : GoodIn wsX10_agrees (wsV RX10 25 RX7 yX7_get wsX7_get) := goodIn_app (goodIn_of _ (by decide +kernel)) ggX10_agrees_X7_get
set_option maxRecDepth 20000 in
theorem ggX10_agrees_X10_spread : GoodIn wsX10_agrees wsX10_spread := goodIn_r _ [17, 18, 19, 20, 21, 1, 2, 3, 4, 5, 6, 7, 8, 9, 10, 11, 12, 22, 23, 24, 16, 25, 26, 27, 28, 29, 30, 31, 32, 33, 34, 35, 36, 37, 38, 47, 43, 44, 45, 46] (by decide +kernel) (by decide +kernel)
set_option maxRecDepth 20000 in
theorem gX10_agrees_X10_spread : GoodIn wsX10_agrees (wsV RX10 43 RX10 yX10_spread wsX10_spread) := goodIn_app (goodIn_of _ (by decide +kernel)) ggX10_agrees_X10_spread
set_option maxRecDepth 20000 in
theorem ggX10_agrees_X10_feltBy : GoodIn wsX10_agrees wsX10_feltBy := goodIn_r _ [42, 18, 26, 20, 27, 47] (by decide +kernel) (by decide +kernel)
set_option maxRecDepth 20000 in
theorem gX10_agrees_X10_feltBy : GoodIn wsX10_agrees (wsV RX10 47 RX10 yX10_feltBy wsX10_feltBy) := goodIn_app (goodIn_of _ (by decide +kernel)) ggX10_agrees_X10_feltBy
theorem dX10_agrees_0 : decode cX10_agrees 0 = .ok (.iconst 0, 1) := by decide +kernel
theorem dX10_agrees_1 : decode cX10_agrees 1 = .ok (.istore_n 3, 1) := by decide +kernel
theorem dX10_agrees_2 : decode cX10_agrees 2 = .ok (.iload_n 3, 1) := by decide +kernel
theorem dX10_agrees_3 : decode cX10_agrees 3 = .ok (.aload_n 2, 1) := by decide +kernel
theorem dX10_agrees_4 : decode cX10_agrees 4 = .ok (.invokevirtual 19, 3) := by decide +kernel
theorem dX10_agrees_7 : decode cX10_agrees 7 = .ok (.if_icmp .ge 47, 3) := by decide +kernel
theorem dX10_agrees_10 : decode cX10_agrees 10 = .ok (.aload_n 0, 1) := by decide +kernel
theorem dX10_agrees_11 : decode cX10_agrees 11 = .ok (.aload_n 1, 1) := by decide +kernel
theorem dX10_agrees_12 : decode cX10_agrees 12 = .ok (.aload_n 2, 1) := by decide +kernel
theorem dX10_agrees_13 : decode cX10_agrees 13 = .ok (.iload_n 3, 1) := by decide +kernel
theorem dX10_agrees_14 : decode cX10_agrees 14 = .ok (.iconst 0, 1) := by decide +kernel
theorem dX10_agrees_15 : decode cX10_agrees 15 = .ok (.invokevirtual 25, 3) := by decide +kernel
theorem dX10_agrees_18 : decode cX10_agrees 18 = .ok (.aload_n 2, 1) := by decide +kernel
theorem dX10_agrees_19 : decode cX10_agrees 19 = .ok (.iload_n 3, 1) := by decide +kernel
theorem dX10_agrees_20 : decode cX10_agrees 20 = .ok (.iconst 1, 1) := by decide +kernel
theorem dX10_agrees_21 : decode cX10_agrees 21 = .ok (.invokevirtual 25, 3) := by decide +kernel
theorem dX10_agrees_24 : decode cX10_agrees 24 = .ok (.invokevirtual 43, 3) := by decide +kernel
theorem dX10_agrees_27 : decode cX10_agrees 27 = .ok (.aload_n 0, 1) := by decide +kernel
theorem dX10_agrees_28 : decode cX10_agrees 28 = .ok (.aload_n 2, 1) := by decide +kernel
theorem dX10_agrees_29 : decode cX10_agrees 29 = .ok (.iload_n 3, 1) := by decide +kernel
theorem dX10_agrees_30 : decode cX10_agrees 30 = .ok (.iconst 2, 1) := by decide +kernel
theorem dX10_agrees_31 : decode cX10_agrees 31 = .ok (.invokevirtual 25, 3) := by decide +kernel
theorem dX10_agrees_34 : decode cX10_agrees 34 = .ok (.invokevirtual 47, 3) := by decide +kernel
theorem dX10_agrees_37 : decode cX10_agrees 37 = .ok (.aload_n 2, 1) := by decide +kernel
theorem dX10_agrees_38 : decode cX10_agrees 38 = .ok (.iload_n 3, 1) := by decide +kernel
theorem dX10_agrees_39 : decode cX10_agrees 39 = .ok (.iconst 3, 1) := by decide +kernel
theorem dX10_agrees_40 : decode cX10_agrees 40 = .ok (.invokevirtual 25, 3) := by decide +kernel
theorem dX10_agrees_43 : decode cX10_agrees 43 = .ok (.if_icmp .eq 5, 3) := by decide +kernel
theorem dX10_agrees_46 : decode cX10_agrees 46 = .ok (.iconst 0, 1) := by decide +kernel
theorem dX10_agrees_47 : decode cX10_agrees 47 = .ok (.ireturn, 1) := by decide +kernel
theorem dX10_agrees_48 : decode cX10_agrees 48 = .ok (.iinc 3 1, 3) := by decide +kernel
theorem dX10_agrees_51 : decode cX10_agrees 51 = .ok (.goto (-49), 3) := by decide +kernel
theorem dX10_agrees_54 : decode cX10_agrees 54 = .ok (.iconst 1, 1) := by decide +kernel
theorem dX10_agrees_55 : decode cX10_agrees 55 = .ok (.ireturn, 1) := by decide +kernel
