theorem dX8_joinedNow_33 : decode cX8_joinedNow 33 = .ok (.iand, 1) := by decide +kernel
theorem dX8_joinedNow_34 : decode cX8_joinedNow 34 = .ok (.goto 5, 3) := by decide +kernel
theorem dX8_joinedNow_37 : decode cX8_joinedNow 37 = .ok (.iload 4, 2) := by decide +kernel
theorem dX8_joinedNow_39 : decode cX8_joinedNow 39 = .ok (.ireturn, 1) := by decide +kernel
set_option maxRecDepth 20000 in
theorem ggX8_joined_X8_isEnd : GoodIn wsX8_joined wsX8_isEnd := goodIn_r _ [5, 6, 7, 4, 8] (by decide +kernel) (by decide +kernel)
set_option maxRecDepth 20000 in
theorem gX8_joined_X8_isEnd : GoodIn wsX8_joined (va_wsS RX8 102 yX8_isEnd wsX8_isEnd) := goodIn_app (goodIn_of _ (by decide +kernel)) ggX8_joined_X8_isEnd
set_option maxRecDepth 20000 in
theorem ggX8_joined_X8_isWire : GoodIn wsX8_joined wsX8_isWire := goodIn_r _ [11, 6, 7, 4, 8] (by decide +kernel) (by decide +kernel)
set_option maxRecDepth 20000 in
theorem gX8_joined_X8_isWire : GoodIn wsX8_joined (va_wsS RX8 106 yX8_isWire wsX8_isWire) := goodIn_app (goodIn_of _ (by decide +kernel)) ggX8_joined_X8_isWire
set_option maxRecDepth 20000 in
theorem ggX8_joined_X8_joinedNow : GoodIn wsX8_joined wsX8_joinedNow := goodIn_r _ [15, 16, 17, 18, 19, 4, 20, 21, 22, 23, 24, 25, 26, 27, 28, 29, 30, 31, 32, 33, 34, 35, 36, 37, 38, 39, 40, 41, 42, 43, 44, 45, 46, 47, 48, 49, 50, 51, 52, 53, 54, 55, 56, 57, 58, 59, 60, 61, 62, 63, 64, 65, 66, 67, 68, 69, 70, 71, 72, 73, 74, 75, 76, 77, 78, 79] (by decide +kernel) (by decide +kernel)
set_option maxRecDepth 20000 in
theorem gX8_joined_X8_joinedNow : GoodIn wsX8_joined (wsV RX8 187 RX8 yX8_joinedNow wsX8_joinedNow) := goodIn_app (goodIn_of _ (by decide +kernel)) ggX8_joined_X8_joinedNow
theorem dX8_joined_0 : decode cX8_joined 0 = .ok (.aload_n 0, 1) := by decide +kernel
theorem dX8_joined_1 : decode cX8_joined 1 = .ok (.iload_n 1, 1) := by decide +kernel
theorem dX8_joined_2 : decode cX8_joined 2 = .ok (.invokestatic 102, 3) := by decide +kernel
theorem dX8_joined_5 : decode cX8_joined 5 = .ok (.ifCond .eq 10, 3) := by decide +kernel
theorem dX8_joined_8 : decode cX8_joined 8 = .ok (.iload_n 3, 1) := by decide +kernel
theorem dX8_joined_9 : decode cX8_joined 9 = .ok (.invokestatic 102, 3) := by decide +kernel
theorem dX8_joined_12 : decode cX8_joined 12 = .ok (.ifCond .ne 7, 3) := by decide +kernel
theorem dX8_joined_15 : decode cX8_joined 15 = .ok (.iconst 1, 1) := by decide +kernel
theorem dX8_joined_16 : decode cX8_joined 16 = .ok (.goto 15, 3) := by decide +kernel
theorem dX8_joined_19 : decode cX8_joined 19 = .ok (.iload_n 2, 1) := by decide +kernel
theorem dX8_joined_20 : decode cX8_joined 20 = .ok (.invokestatic 106, 3) := by decide +kernel
theorem dX8_joined_23 : decode cX8_joined 23 = .ok (.ifCond .eq 7, 3) := by decide +kernel
theorem dX8_joined_26 : decode cX8_joined 26 = .ok (.iconst 0, 1) := by decide +kernel
theorem dX8_joined_27 : decode cX8_joined 27 = .ok (.goto 4, 3) := by decide +kernel
theorem dX8_joined_30 : decode cX8_joined 30 = .ok (.iconst 2, 1) := by decide +kernel
theorem dX8_joined_31 : decode cX8_joined 31 = .ok (.putfield 44, 3) := by decide +kernel
theorem dX8_joined_34 : decode cX8_joined 34 = .ok (.aload_n 0, 1) := by decide +kernel
theorem dX8_joined_35 : decode cX8_joined 35 = .ok (.getfield 44, 3) := by decide +kernel
theorem dX8_joined_38 : decode cX8_joined 38 = .ok (.ifCond .le 7, 3) := by decide +kernel
theorem dX8_joined_41 : decode cX8_joined 41 = .ok (.iconst 0, 1) := by decide +kernel
theorem dX8_joined_42 : decode cX8_joined 42 = .ok (.goto 10, 3) := by decide +kernel
theorem dX8_joined_45 : decode cX8_joined 45 = .ok (.aload_n 0, 1) := by decide +kernel
theorem dX8_joined_46 : decode cX8_joined 46 = .ok (.iload_n 1, 1) := by decide +kernel
theorem dX8_joined_47 : decode cX8_joined 47 = .ok (.iload_n 2, 1) := by decide +kernel
theorem dX8_joined_48 : decode cX8_joined 48 = .ok (.iload_n 3, 1) := by decide +kernel
theorem dX8_joined_49 : decode cX8_joined 49 = .ok (.invokevirtual 187, 3) := by decide +kernel
theorem dX8_joined_52 : decode cX8_joined 52 = .ok (.ireturn, 1) := by decide +kernel
set_option maxRecDepth 20000 in
theorem ggX8_status_X8_isWire : GoodIn wsX8_status wsX8_isWire := goodIn_r _ [6, 7, 8, 5, 9] (by decide +kernel) (by decide +kernel)
set_option maxRecDepth 20000 in
theorem gX8_status_X8_isWire : GoodIn wsX8_status (va_wsS RX8 106 yX8_isWire wsX8_isWire) := goodIn_app (goodIn_of _ (by decide +kernel)) ggX8_status_X8_isWire
set_option maxRecDepth 20000 in
theorem ggX8_status_X8_layNets : GoodIn wsX8_status wsX8_layNets := goodIn_r _ [13, 14, 15, 16, 17, 18, 19, 5, 20, 21, 22, 23, 24, 25, 26, 27, 28, 29, 30, 31, 32, 33, 34, 35, 36, 37, 38, 39, 51, 52, 53, 54, 55, 56, 57, 58, 59, 60, 61, 62, 63, 64, 65, 66, 67, 68, 69, 70, 71, 72, 73, 74, 75, 76, 77, 78, 79] (by decide +kernel) (by decide +kernel)
set_option maxRecDepth 20000 in
theorem gX8_status_X8_layNets : GoodIn wsX8_status (wsV RX8 96 RX8 yX8_layNets wsX8_layNets) := goodIn_app (goodIn_of _ (by decide +kernel)) ggX8_status_X8_layNets
set_option maxRecDepth 20000 in
theorem ggX8_status_X8_statusNow : GoodIn wsX8_status wsX8_statusNow := goodIn_r _ [43, 44, 45, 46, 5, 47, 14, 48, 49, 50, 51, 52, 53, 54, 55, 56, 57, 58, 59, 60, 61, 62, 63, 64, 65, 66, 67, 68, 69, 70, 71, 72, 73, 74, 75, 76, 77, 78, 79] (by decide +kernel) (by decide +kernel)
set_option maxRecDepth 20000 in
theorem gX8_status_X8_statusNow : GoodIn wsX8_status (wsV RX8 99 RX8 yX8_statusNow wsX8_statusNow) := goodIn_app (goodIn_of _ (by decide +kernel)) ggX8_status_X8_statusNow
theorem dX8_status_0 : decode cX8_status 0 = .ok (.aload_n 0, 1) := by decide +kernel
theorem dX8_status_1 : decode cX8_status 1 = .ok (.iload_n 1, 1) := by decide +kernel
theorem dX8_status_2 : decode cX8_status 2 = .ok (.invokestatic 106, 3) := by decide +kernel
theorem dX8_status_5 : decode cX8_status 5 = .ok (.ifCond .eq 7, 3) := by decide +kernel
theorem dX8_status_8 : decode cX8_status 8 = .ok (.iconst 0, 1) := by decide +kernel
theorem dX8_status_9 : decode cX8_status 9 = .ok (.goto 4, 3) := by decide +kernel
theorem dX8_status_12 : decode cX8_status 12 = .ok (.iconst 1, 1) := by decide +kernel
theorem dX8_status_13 : decode cX8_status 13 = .ok (.putfield 44, 3) := by decide +kernel
theorem dX8_status_16 : decode cX8_status 16 = .ok (.aload_n 0, 1) := by decide +kernel
theorem dX8_status_17 : decode cX8_status 17 = .ok (.getfield 44, 3) := by decide +kernel
theorem dX8_status_20 : decode cX8_status 20 = .ok (.ifCond .le 5, 3) := by decide +kernel
theorem dX8_status_23 : decode cX8_status 23 = .ok (.iconst 0, 1) := by decide +kernel
theorem dX8_status_24 : decode cX8_status 24 = .ok (.ireturn, 1) := by decide +kernel
theorem dX8_status_25 : decode cX8_status 25 = .ok (.aload_n 0, 1) := by decide +kernel
theorem dX8_status_26 : decode cX8_status 26 = .ok (.aload_n 0, 1) := by decide +kernel
theorem dX8_status_27 : decode cX8_status 27 = .ok (.getfield 61, 3) := by decide +kernel
theorem dX8_status_30 : decode cX8_status 30 = .ok (.invokevirtual 96, 3) := by decide +kernel
theorem dX8_status_33 : decode cX8_status 33 = .ok (.aload_n 0, 1) := by decide +kernel
theorem dX8_status_34 : decode cX8_status 34 = .ok (.iload_n 1, 1) := by decide +kernel
theorem dX8_status_35 : decode cX8_status 35 = .ok (.invokevirtual 99, 3) := by decide +kernel
theorem dX8_status_38 : decode cX8_status 38 = .ok (.ireturn, 1) := by decide +kernel
set_option maxRecDepth 20000 in
theorem ggX8_event_X8_of : GoodIn wsX8_event wsX8_of := goodIn_r _ [8, 9, 14, 15, 16, 17, 18, 19, 20, 21, 22, 23, 24, 25, 26, 27, 28, 29, 30, 31, 32, 33, 34, 35, 36, 37, 38, 39, 40, 41, 42] (by decide +kernel) (by decide +kernel)
set_option maxRecDepth 20000 in
theorem gX8_event_X8_of : GoodIn wsX8_event (wsV RX8 70 RX8 yX8_of wsX8_of) := goodIn_app (goodIn_of _ (by decide +kernel)) ggX8_event_X8_of
set_option maxRecDepth 20000 in
theorem ggX8_event_X8_isPresent : GoodIn wsX8_event wsX8_isPresent := goodIn_r _ [13, 4, 5, 6, 7, 8, 9, 14, 15, 16, 17, 18, 19, 20, 21, 22, 23, 24, 25, 26, 27, 28, 29, 30, 31, 32, 33, 34, 35, 36, 37, 38, 39, 40, 41, 42] (by decide +kernel) (by decide +kernel)
set_option maxRecDepth 20000 in
theorem gX8_event_X8_isPresent : GoodIn wsX8_event (wsV RX8 74 RX8 yX8_isPresent wsX8_isPresent) := goodIn_app (goodIn_of _ (by decide +kernel)) ggX8_event_X8_isPresent
theorem dX8_event_0 : decode cX8_event 0 = .ok (.iconst 2, 1) := by decide +kernel
theorem dX8_event_1 : decode cX8_event 1 = .ok (.aload_n 0, 1) := by decide +kernel
theorem dX8_event_2 : decode cX8_event 2 = .ok (.getfield 52, 3) := by decide +kernel
theorem dX8_event_5 : decode cX8_event 5 = .ok (.imul, 1) := by decide +kernel
theorem dX8_event_6 : decode cX8_event 6 = .ok (.iconst 1, 1) := by decide +kernel
theorem dX8_event_7 : decode cX8_event 7 = .ok (.iadd, 1) := by decide +kernel
theorem dX8_event_8 : decode cX8_event 8 = .ok (.istore_n 2, 1) := by decide +kernel
theorem dX8_event_9 : decode cX8_event 9 = .ok (.iconst 0, 1) := by decide +kernel
theorem dX8_event_10 : decode cX8_event 10 = .ok (.istore_n 3, 1) := by decide +kernel
theorem dX8_event_11 : decode cX8_event 11 = .ok (.iload_n 3, 1) := by decide +kernel
theorem dX8_event_12 : decode cX8_event 12 = .ok (.aload_n 0, 1) := by decide +kernel
theorem dX8_event_13 : decode cX8_event 13 = .ok (.getfield 64, 3) := by decide +kernel
theorem dX8_event_16 : decode cX8_event 16 = .ok (.if_icmp .ge 91, 3) := by decide +kernel
theorem dX8_event_19 : decode cX8_event 19 = .ok (.aload_n 0, 1) := by decide +kernel
theorem dX8_event_20 : decode cX8_event 20 = .ok (.iload_n 3, 1) := by decide +kernel
theorem dX8_event_21 : decode cX8_event 21 = .ok (.iconst 1, 1) := by decide +kernel
theorem dX8_event_22 : decode cX8_event 22 = .ok (.invokevirtual 70, 3) := by decide +kernel
theorem dX8_event_25 : decode cX8_event 25 = .ok (.iload_n 1, 1) := by decide +kernel
theorem dX8_event_26 : decode cX8_event 26 = .ok (.if_icmp .eq 13, 3) := by decide +kernel
theorem dX8_event_29 : decode cX8_event 29 = .ok (.aload_n 0, 1) := by decide +kernel
theorem dX8_event_30 : decode cX8_event 30 = .ok (.iload_n 3, 1) := by decide +kernel
theorem dX8_event_31 : decode cX8_event 31 = .ok (.iconst 2, 1) := by decide +kernel
theorem dX8_event_32 : decode cX8_event 32 = .ok (.invokevirtual 70, 3) := by decide +kernel
theorem dX8_event_35 : decode cX8_event 35 = .ok (.iload_n 1, 1) := by decide +kernel
theorem dX8_event_36 : decode cX8_event 36 = .ok (.if_icmp .ne 7, 3) := by decide +kernel
theorem dX8_event_39 : decode cX8_event 39 = .ok (.iconst 1, 1) := by decide +kernel
theorem dX8_event_40 : decode cX8_event 40 = .ok (.goto 4, 3) := by decide +kernel
theorem dX8_event_43 : decode cX8_event 43 = .ok (.iconst 0, 1) := by decide +kernel
theorem dX8_event_44 : decode cX8_event 44 = .ok (.istore 4, 2) := by decide +kernel
theorem dX8_event_46 : decode cX8_event 46 = .ok (.iconst 2, 1) := by decide +kernel
theorem dX8_event_47 : decode cX8_event 47 = .ok (.aload_n 0, 1) := by decide +kernel
theorem dX8_event_48 : decode cX8_event 48 = .ok (.iload_n 3, 1) := by decide +kernel
theorem dX8_event_49 : decode cX8_event 49 = .ok (.iconst 3, 1) := by decide +kernel
theorem dX8_event_50 : decode cX8_event 50 = .ok (.invokevirtual 70, 3) := by decide +kernel
theorem dX8_event_53 : decode cX8_event 53 = .ok (.imul, 1) := by decide +kernel
theorem dX8_event_54 : decode cX8_event 54 = .ok (.aload_n 0, 1) := by decide +kernel
theorem dX8_event_55 : decode cX8_event 55 = .ok (.iload_n 3, 1) := by decide +kernel
theorem dX8_event_56 : decode cX8_event 56 = .ok (.iconst 0, 1) := by decide +kernel
theorem dX8_event_57 : decode cX8_event 57 = .ok (.invokevirtual 70, 3) := by decide +kernel
theorem dX8_event_60 : decode cX8_event 60 = .ok (.ifCond .ne 7, 3) := by decide +kernel
theorem dX8_event_63 : decode cX8_event 63 = .ok (.iconst 1, 1) := by decide +kernel
theorem dX8_event_64 : decode cX8_event 64 = .ok (.goto 4, 3) := by decide +kernel
theorem dX8_event_67 : decode cX8_event 67 = .ok (.iconst 0, 1) := by decide +kernel
theorem dX8_event_68 : decode cX8_event 68 = .ok (.iadd, 1) := by decide +kernel
theorem dX8_event_69 : decode cX8_event 69 = .ok (.istore 5, 2) := by decide +kernel
theorem dX8_event_71 : decode cX8_event 71 = .ok (.iload 4, 2) := by decide +kernel
theorem dX8_event_73 : decode cX8_event 73 = .ok (.ifCond .eq 26, 3) := by decide +kernel
theorem dX8_event_76 : decode cX8_event 76 = .ok (.aload_n 0, 1) := by decide +kernel
theorem dX8_event_77 : decode cX8_event 77 = .ok (.iload_n 3, 1) := by decide +kernel
theorem dX8_event_78 : decode cX8_event 78 = .ok (.aload_n 0, 1) := by decide +kernel
theorem dX8_event_79 : decode cX8_event 79 = .ok (.getfield 61, 3) := by decide +kernel
theorem dX8_event_82 : decode cX8_event 82 = .ok (.invokevirtual 74, 3) := by decide +kernel
theorem dX8_event_85 : decode cX8_event 85 = .ok (.ifCond .eq 14, 3) := by decide +kernel
theorem dX8_event_88 : decode cX8_event 88 = .ok (.iload 5, 2) := by decide +kernel
theorem dX8_event_90 : decode cX8_event 90 = .ok (.iload_n 2, 1) := by decide +kernel
theorem dX8_event_91 : decode cX8_event 91 = .ok (.if_icmp .ge 8, 3) := by decide +kernel
theorem dX8_event_94 : decode cX8_event 94 = .ok (.iload 5, 2) := by decide +kernel
theorem dX8_event_96 : decode cX8_event 96 = .ok (.goto 4, 3) := by decide +kernel
theorem dX8_event_99 : decode cX8_event 99 = .ok (.iload_n 2, 1) := by decide +kernel
theorem dX8_event_100 : decode cX8_event 100 = .ok (.istore_n 2, 1) := by decide +kernel
theorem dX8_event_101 : decode cX8_event 101 = .ok (.iinc 3 1, 3) := by decide +kernel
theorem dX8_event_104 : decode cX8_event 104 = .ok (.goto (-93), 3) := by decide +kernel
theorem dX8_event_107 : decode cX8_event 107 = .ok (.iload_n 2, 1) := by decide +kernel
theorem dX8_event_108 : decode cX8_event 108 = .ok (.ireturn, 1) := by decide +kernel
set_option maxRecDepth 20000 in
theorem ggX8_echoNow_X8_event : GoodIn wsX8_echoNow wsX8_event := goodIn_r _ [9, 3, 10, 11, 12, 13, 14, 8, 15, 16, 17, 18, 19, 20, 21, 22, 23, 24, 25, 26, 27, 28, 29, 30, 31, 32, 33, 34, 35, 36, 37, 38, 39, 40, 41, 42, 43, 44, 45, 46, 47, 48, 49] (by decide +kernel) (by decide +kernel)
set_option maxRecDepth 20000 in
theorem gX8_echoNow_X8_event : GoodIn wsX8_echoNow (wsV RX8 190 RX8 yX8_event wsX8_event) := goodIn_app (goodIn_of _ (by decide +kernel)) ggX8_echoNow_X8_event
theorem dX8_echoNow_0 : decode cX8_echoNow 0 = .ok (.aload_n 0, 1) := by decide +kernel
theorem dX8_echoNow_1 : decode cX8_echoNow 1 = .ok (.aload_n 0, 1) := by decide +kernel
theorem dX8_echoNow_2 : decode cX8_echoNow 2 = .ok (.getfield 7, 3) := by decide +kernel
theorem dX8_echoNow_5 : decode cX8_echoNow 5 = .ok (.iload_n 1, 1) := by decide +kernel
theorem dX8_echoNow_6 : decode cX8_echoNow 6 = .ok (.iaload, 1) := by decide +kernel
theorem dX8_echoNow_7 : decode cX8_echoNow 7 = .ok (.invokevirtual 190, 3) := by decide +kernel
theorem dX8_echoNow_10 : decode cX8_echoNow 10 = .ok (.istore_n 3, 1) := by decide +kernel
theorem dX8_echoNow_11 : decode cX8_echoNow 11 = .ok (.iload_n 3, 1) := by decide +kernel
theorem dX8_echoNow_12 : decode cX8_echoNow 12 = .ok (.iconst 2, 1) := by decide +kernel
theorem dX8_echoNow_13 : decode cX8_echoNow 13 = .ok (.idiv, 1) := by decide +kernel
theorem dX8_echoNow_14 : decode cX8_echoNow 14 = .ok (.istore 4, 2) := by decide +kernel
theorem dX8_echoNow_16 : decode cX8_echoNow 16 = .ok (.sipush 400, 3) := by decide +kernel
theorem dX8_echoNow_19 : decode cX8_echoNow 19 = .ok (.iload 4, 2) := by decide +kernel
theorem dX8_echoNow_21 : decode cX8_echoNow 21 = .ok (.imul, 1) := by decide +kernel
theorem dX8_echoNow_22 : decode cX8_echoNow 22 = .ok (.iconst 3, 1) := by decide +kernel
theorem dX8_echoNow_23 : decode cX8_echoNow 23 = .ok (.aload_n 0, 1) := by decide +kernel
theorem dX8_echoNow_24 : decode cX8_echoNow 24 = .ok (.getfield 55, 3) := by decide +kernel
theorem dX8_echoNow_27 : decode cX8_echoNow 27 = .ok (.imul, 1) := by decide +kernel
theorem dX8_echoNow_28 : decode cX8_echoNow 28 = .ok (.iadd, 1) := by decide +kernel
theorem dX8_echoNow_29 : decode cX8_echoNow 29 = .ok (.bipush 6, 2) := by decide +kernel
theorem dX8_echoNow_31 : decode cX8_echoNow 31 = .ok (.aload_n 0, 1) := by decide +kernel
theorem dX8_echoNow_32 : decode cX8_echoNow 32 = .ok (.getfield 55, 3) := by decide +kernel
theorem dX8_echoNow_35 : decode cX8_echoNow 35 = .ok (.imul, 1) := by decide +kernel
theorem dX8_echoNow_36 : decode cX8_echoNow 36 = .ok (.idiv, 1) := by decide +kernel
theorem dX8_echoNow_37 : decode cX8_echoNow 37 = .ok (.istore 5, 2) := by decide +kernel
theorem dX8_echoNow_39 : decode cX8_echoNow 39 = .ok (.iload 4, 2) := by decide +kernel
theorem dX8_echoNow_41 : decode cX8_echoNow 41 = .ok (.aload_n 0, 1) := by decide +kernel
theorem dX8_echoNow_42 : decode cX8_echoNow 42 = .ok (.getfield 52, 3) := by decide +kernel
theorem dX8_echoNow_45 : decode cX8_echoNow 45 = .ok (.if_icmp .ne 12, 3) := by decide +kernel
theorem dX8_echoNow_48 : decode cX8_echoNow 48 = .ok (.aload_n 0, 1) := by decide +kernel
theorem dX8_echoNow_49 : decode cX8_echoNow 49 = .ok (.getfield 58, 3) := by decide +kernel
theorem dX8_echoNow_52 : decode cX8_echoNow 52 = .ok (.ifCond .le 5, 3) := by decide +kernel
theorem dX8_echoNow_55 : decode cX8_echoNow 55 = .ok (.iconst (-1), 1) := by decide +kernel
theorem dX8_echoNow_56 : decode cX8_echoNow 56 = .ok (.ireturn, 1) := by decide +kernel
theorem dX8_echoNow_57 : decode cX8_echoNow 57 = .ok (.iload_n 2, 1) := by decide +kernel
theorem dX8_echoNow_58 : decode cX8_echoNow 58 = .ok (.tableswitch 54 0 2 #[26, 32, 35], 26) := by decide +kernel
theorem dX8_echoNow_84 : decode cX8_echoNow 84 = .ok (.iconst 1, 1) := by decide +kernel
theorem dX8_echoNow_85 : decode cX8_echoNow 85 = .ok (.iload_n 3, 1) := by decide +kernel
theorem dX8_echoNow_86 : decode cX8_echoNow 86 = .ok (.iconst 2, 1) := by decide +kernel
theorem dX8_echoNow_87 : decode cX8_echoNow 87 = .ok (.irem, 1) := by decide +kernel
theorem dX8_echoNow_88 : decode cX8_echoNow 88 = .ok (.isub, 1) := by decide +kernel
theorem dX8_echoNow_89 : decode cX8_echoNow 89 = .ok (.ireturn, 1) := by decide +kernel
theorem dX8_echoNow_90 : decode cX8_echoNow 90 = .ok (.iload 5, 2) := by decide +kernel
theorem dX8_echoNow_92 : decode cX8_echoNow 92 = .ok (.ireturn, 1) := by decide +kernel
theorem dX8_echoNow_93 : decode cX8_echoNow 93 = .ok (.bipush 6, 2) := by decide +kernel
theorem dX8_echoNow_95 : decode cX8_echoNow 95 = .ok (.aload_n 0, 1) := by decide +kernel
theorem dX8_echoNow_96 : decode cX8_echoNow 96 = .ok (.getfield 55, 3) := by decide +kernel
theorem dX8_echoNow_99 : decode cX8_echoNow 99 = .ok (.imul, 1) := by decide +kernel
theorem dX8_echoNow_100 : decode cX8_echoNow 100 = .ok (.iload 5, 2) := by decide +kernel
theorem dX8_echoNow_102 : decode cX8_echoNow 102 = .ok (.imul, 1) := by decide +kernel
theorem dX8_echoNow_103 : decode cX8_echoNow 103 = .ok (.sipush 200, 3) := by decide +kernel
theorem dX8_echoNow_106 : decode cX8_echoNow 106 = .ok (.iadd, 1) := by decide +kernel
theorem dX8_echoNow_107 : decode cX8_echoNow 107 = .ok (.sipush 400, 3) := by decide +kernel
theorem dX8_echoNow_110 : decode cX8_echoNow 110 = .ok (.idiv, 1) := by decide +kernel
theorem dX8_echoNow_111 : decode cX8_echoNow 111 = .ok (.ireturn, 1) := by decide +kernel
theorem dX8_echoNow_112 : decode cX8_echoNow 112 = .ok (.iload 4, 2) := by decide +kernel
theorem dX8_echoNow_114 : decode cX8_echoNow 114 = .ok (.ireturn, 1) := by decide +kernel
set_option maxRecDepth 20000 in
theorem ggX8_echo_X8_isWire : GoodIn wsX8_echo wsX8_isWire := goodIn_r _ [5, 6, 7, 4, 8] (by decide +kernel) (by decide +kernel)
set_option maxRecDepth 20000 in
theorem gX8_echo_X8_isWire : GoodIn wsX8_echo (va_wsS RX8 106 yX8_isWire wsX8_isWire) := goodIn_app (goodIn_of _ (by decide +kernel)) ggX8_echo_X8_isWire
set_option maxRecDepth 20000 in
theorem ggX8_echo_X8_within : GoodIn wsX8_echo wsX8_within := goodIn_r _ [8] (by decide +kernel) (by decide +kernel)
set_option maxRecDepth 20000 in
theorem gX8_echo_X8_within : GoodIn wsX8_echo (va_wsS RX8 48 yX8_within wsX8_within) := goodIn_app (goodIn_of _ (by decide +kernel)) ggX8_echo_X8_within
set_option maxRecDepth 20000 in
theorem ggX8_echo_X8_echoNow : GoodIn wsX8_echo wsX8_echoNow := goodIn_r _ [12, 13, 14, 15, 16, 17, 18, 19, 4, 20, 21, 22, 23, 24, 25, 26, 27, 28, 29, 30, 31, 32, 33, 34, 35, 36, 37, 38, 39, 40, 41, 42, 43, 44, 45, 46, 47, 48, 49, 50, 51, 52, 53, 54, 55, 56, 57, 58, 59, 60] (by decide +kernel) (by decide +kernel)
set_option maxRecDepth 20000 in
theorem gX8_echo_X8_echoNow : GoodIn wsX8_echo (wsV RX8 193 RX8 yX8_echoNow wsX8_echoNow) := goodIn_app (goodIn_of _ (by decide +kernel)) ggX8_echo_X8_echoNow
theorem dX8_echo_0 : decode cX8_echo 0 = .ok (.aload_n 0, 1) := by decide +kernel
theorem dX8_echo_1 : decode cX8_echo 1 = .ok (.iload_n 1, 1) := by decide +kernel
theorem dX8_echo_2 : decode cX8_echo 2 = .ok (.invokestatic 106, 3) := by decide +kernel
theorem dX8_echo_5 : decode cX8_echo 5 = .ok (.ifCond .ne 7, 3) := by decide +kernel
theorem dX8_echo_8 : decode cX8_echo 8 = .ok (.iconst 1, 1) := by decide +kernel
theorem dX8_echo_9 : decode cX8_echo 9 = .ok (.goto 17, 3) := by decide +kernel
theorem dX8_echo_12 : decode cX8_echo 12 = .ok (.iload_n 2, 1) := by decide +kernel
theorem dX8_echo_13 : decode cX8_echo 13 = .ok (.iconst 0, 1) := by decide +kernel
theorem dX8_echo_14 : decode cX8_echo 14 = .ok (.iconst 3, 1) := by decide +kernel
theorem dX8_echo_15 : decode cX8_echo 15 = .ok (.invokestatic 48, 3) := by decide +kernel
theorem dX8_echo_18 : decode cX8_echo 18 = .ok (.ifCond .eq 7, 3) := by decide +kernel
theorem dX8_echo_21 : decode cX8_echo 21 = .ok (.iconst 0, 1) := by decide +kernel
theorem dX8_echo_22 : decode cX8_echo 22 = .ok (.goto 4, 3) := by decide +kernel
theorem dX8_echo_25 : decode cX8_echo 25 = .ok (.iconst 2, 1) := by decide +kernel
theorem dX8_echo_26 : decode cX8_echo 26 = .ok (.putfield 44, 3) := by decide +kernel
theorem dX8_echo_29 : decode cX8_echo 29 = .ok (.aload_n 0, 1) := by decide +kernel
theorem dX8_echo_30 : decode cX8_echo 30 = .ok (.getfield 44, 3) := by decide +kernel
theorem dX8_echo_33 : decode cX8_echo 33 = .ok (.ifCond .le 7, 3) := by decide +kernel
theorem dX8_echo_36 : decode cX8_echo 36 = .ok (.iconst 0, 1) := by decide +kernel
theorem dX8_echo_37 : decode cX8_echo 37 = .ok (.goto 9, 3) := by decide +kernel
theorem dX8_echo_40 : decode cX8_echo 40 = .ok (.aload_n 0, 1) := by decide +kernel
theorem dX8_echo_41 : decode cX8_echo 41 = .ok (.iload_n 1, 1) := by decide +kernel
theorem dX8_echo_42 : decode cX8_echo 42 = .ok (.iload_n 2, 1) := by decide +kernel
theorem dX8_echo_43 : decode cX8_echo 43 = .ok (.invokevirtual 193, 3) := by decide +kernel
theorem dX8_echo_46 : decode cX8_echo 46 = .ok (.ireturn, 1) := by decide +kernel
theorem dX8_talk_0 : decode cX8_talk 0 = .ok (.iconst 0, 1) := by decide +kernel
theorem dX8_talk_1 : decode cX8_talk 1 = .ok (.istore_n 3, 1) := by decide +kernel
theorem dX8_talk_2 : decode cX8_talk 2 = .ok (.iconst 2, 1) := by decide +kernel
theorem dX8_talk_3 : decode cX8_talk 3 = .ok (.iload_n 1, 1) := by decide +kernel
theorem dX8_talk_4 : decode cX8_talk 4 = .ok (.imul, 1) := by decide +kernel
theorem dX8_talk_5 : decode cX8_talk 5 = .ok (.istore 4, 2) := by decide +kernel
theorem dX8_talk_7 : decode cX8_talk 7 = .ok (.iload 4, 2) := by decide +kernel
theorem dX8_talk_9 : decode cX8_talk 9 = .ok (.iconst 2, 1) := by decide +kernel
theorem dX8_talk_10 : decode cX8_talk 10 = .ok (.iload_n 1, 1) := by decide +kernel
theorem dX8_talk_11 : decode cX8_talk 11 = .ok (.imul, 1) := by decide +kernel
theorem dX8_talk_12 : decode cX8_talk 12 = .ok (.iconst 2, 1) := by decide +kernel
theorem dX8_talk_13 : decode cX8_talk 13 = .ok (.iadd, 1) := by decide +kernel
theorem dX8_talk_14 : decode cX8_talk 14 = .ok (.if_icmp .ge 64, 3) := by decide +kernel
theorem dX8_talk_17 : decode cX8_talk 17 = .ok (.iload_n 1, 1) := by decide +kernel
theorem dX8_talk_18 : decode cX8_talk 18 = .ok (.iload_n 2, 1) := by decide +kernel
theorem dX8_talk_19 : decode cX8_talk 19 = .ok (.if_icmp .eq 59, 3) := by decide +kernel
theorem dX8_talk_22 : decode cX8_talk 22 = .ok (.iconst 2, 1) := by decide +kernel
theorem dX8_talk_23 : decode cX8_talk 23 = .ok (.iload_n 2, 1) := by decide +kernel
theorem dX8_talk_24 : decode cX8_talk 24 = .ok (.imul, 1) := by decide +kernel
theorem dX8_talk_25 : decode cX8_talk 25 = .ok (.istore 5, 2) := by decide +kernel
theorem dX8_talk_27 : decode cX8_talk 27 = .ok (.iload 5, 2) := by decide +kernel
theorem dX8_talk_29 : decode cX8_talk 29 = .ok (.iconst 2, 1) := by decide +kernel
theorem dX8_talk_30 : decode cX8_talk 30 = .ok (.iload_n 2, 1) := by decide +kernel
theorem dX8_talk_31 : decode cX8_talk 31 = .ok (.imul, 1) := by decide +kernel
theorem dX8_talk_32 : decode cX8_talk 32 = .ok (.iconst 2, 1) := by decide +kernel
theorem dX8_talk_33 : decode cX8_talk 33 = .ok (.iadd, 1) := by decide +kernel
theorem dX8_talk_34 : decode cX8_talk 34 = .ok (.if_icmp .ge 38, 3) := by decide +kernel
theorem dX8_talk_37 : decode cX8_talk 37 = .ok (.iload_n 3, 1) := by decide +kernel
theorem dX8_talk_38 : decode cX8_talk 38 = .ok (.aload_n 0, 1) := by decide +kernel
theorem dX8_talk_39 : decode cX8_talk 39 = .ok (.getfield 7, 3) := by decide +kernel
theorem dX8_talk_42 : decode cX8_talk 42 = .ok (.iload 4, 2) := by decide +kernel
theorem dX8_talk_44 : decode cX8_talk 44 = .ok (.iaload, 1) := by decide +kernel
theorem dX8_talk_45 : decode cX8_talk 45 = .ok (.iconst 2, 1) := by decide +kernel
theorem dX8_talk_46 : decode cX8_talk 46 = .ok (.idiv, 1) := by decide +kernel
theorem dX8_talk_47 : decode cX8_talk 47 = .ok (.aload_n 0, 1) := by decide +kernel
theorem dX8_talk_48 : decode cX8_talk 48 = .ok (.getfield 7, 3) := by decide +kernel
theorem dX8_talk_51 : decode cX8_talk 51 = .ok (.iload 5, 2) := by decide +kernel
theorem dX8_talk_53 : decode cX8_talk 53 = .ok (.iaload, 1) := by decide +kernel
theorem dX8_talk_54 : decode cX8_talk 54 = .ok (.iconst 2, 1) := by decide +kernel
theorem dX8_talk_55 : decode cX8_talk 55 = .ok (.idiv, 1) := by decide +kernel
theorem dX8_talk_56 : decode cX8_talk 56 = .ok (.if_icmp .ne 7, 3) := by decide +kernel
theorem dX8_talk_59 : decode cX8_talk 59 = .ok (.iconst 1, 1) := by decide +kernel
theorem dX8_talk_60 : decode cX8_talk 60 = .ok (.goto 4, 3) := by decide +kernel
theorem dX8_talk_63 : decode cX8_talk 63 = .ok (.iconst 0, 1) := by decide +kernel
theorem dX8_talk_64 : decode cX8_talk 64 = .ok (.iadd, 1) := by decide +kernel
theorem dX8_talk_65 : decode cX8_talk 65 = .ok (.istore_n 3, 1) := by decide +kernel
theorem dX8_talk_66 : decode cX8_talk 66 = .ok (.iinc 5 1, 3) := by decide +kernel
theorem dX8_talk_69 : decode cX8_talk 69 = .ok (.goto (-42), 3) := by decide +kernel
theorem dX8_talk_72 : decode cX8_talk 72 = .ok (.iinc 4 1, 3) := by decide +kernel
theorem dX8_talk_75 : decode cX8_talk 75 = .ok (.goto (-68), 3) := by decide +kernel
theorem dX8_talk_78 : decode cX8_talk 78 = .ok (.iload_n 3, 1) := by decide +kernel
theorem dX8_talk_79 : decode cX8_talk 79 = .ok (.ireturn, 1) := by decide +kernel
set_option maxRecDepth 20000 in
theorem ggX8_isPair_X8_within : GoodIn wsX8_isPair wsX8_within := goodIn_r _ [4] (by decide +kernel) (by decide +kernel)
set_option maxRecDepth 20000 in
theorem gX8_isPair_X8_within : GoodIn wsX8_isPair (va_wsS RX8 48 yX8_within wsX8_within) := goodIn_app (goodIn_of _ (by decide +kernel)) ggX8_isPair_X8_within
theorem dX8_isPair_0 : decode cX8_isPair 0 = .ok (.iload_n 0, 1) := by decide +kernel
theorem dX8_isPair_1 : decode cX8_isPair 1 = .ok (.iconst 0, 1) := by decide +kernel
theorem dX8_isPair_2 : decode cX8_isPair 2 = .ok (.iconst 3, 1) := by decide +kernel
theorem dX8_isPair_3 : decode cX8_isPair 3 = .ok (.invokestatic 48, 3) := by decide +kernel
theorem dX8_isPair_6 : decode cX8_isPair 6 = .ok (.ireturn, 1) := by decide +kernel
set_option maxRecDepth 20000 in
theorem ggX8_crosstalk_X8_isPair : GoodIn wsX8_crosstalk wsX8_isPair := goodIn_r _ [5, 6, 7, 4, 8] (by decide +kernel) (by decide +kernel)
set_option maxRecDepth 20000 in
theorem gX8_crosstalk_X8_isPair : GoodIn wsX8_crosstalk (va_wsS RX8 196 yX8_isPair wsX8_isPair) := goodIn_app (goodIn_of _ (by decide +kernel)) ggX8_crosstalk_X8_isPair
set_option maxRecDepth 20000 in
theorem ggX8_crosstalk_X8_talk : GoodIn wsX8_crosstalk wsX8_talk := goodIn_r _ [12, 13, 14, 15, 16, 17, 18, 19, 20, 21, 22, 23, 24, 25, 26, 27, 28, 29, 30, 31, 32, 33, 34, 35, 36, 37, 38, 39, 40, 41, 42] (by decide +kernel) (by decide +kernel)
set_option maxRecDepth 20000 in
theorem gX8_crosstalk_X8_talk : GoodIn wsX8_crosstalk (wsV RX8 199 RX8 yX8_talk wsX8_talk) := goodIn_app (goodIn_of _ (by decide +kernel)) ggX8_crosstalk_X8_talk
theorem dX8_crosstalk_0 : decode cX8_crosstalk 0 = .ok (.aload_n 0, 1) := by decide +kernel
theorem dX8_crosstalk_1 : decode cX8_crosstalk 1 = .ok (.iload_n 1, 1) := by decide +kernel
theorem dX8_crosstalk_2 : decode cX8_crosstalk 2 = .ok (.invokestatic 196, 3) := by decide +kernel
theorem dX8_crosstalk_5 : decode cX8_crosstalk 5 = .ok (.ifCond .eq 14, 3) := by decide +kernel
theorem dX8_crosstalk_8 : decode cX8_crosstalk 8 = .ok (.iload_n 2, 1) := by decide +kernel
theorem dX8_crosstalk_9 : decode cX8_crosstalk 9 = .ok (.invokestatic 196, 3) := by decide +kernel
theorem dX8_crosstalk_12 : decode cX8_crosstalk 12 = .ok (.ifCond .eq 7, 3) := by decide +kernel
theorem dX8_crosstalk_15 : decode cX8_crosstalk 15 = .ok (.iconst 0, 1) := by decide +kernel
theorem dX8_crosstalk_16 : decode cX8_crosstalk 16 = .ok (.goto 4, 3) := by decide +kernel
theorem dX8_crosstalk_19 : decode cX8_crosstalk 19 = .ok (.iconst 1, 1) := by decide +kernel
theorem dX8_crosstalk_20 : decode cX8_crosstalk 20 = .ok (.putfield 44, 3) := by decide +kernel
theorem dX8_crosstalk_23 : decode cX8_crosstalk 23 = .ok (.aload_n 0, 1) := by decide +kernel
theorem dX8_crosstalk_24 : decode cX8_crosstalk 24 = .ok (.getfield 44, 3) := by decide +kernel
theorem dX8_crosstalk_27 : decode cX8_crosstalk 27 = .ok (.ifCond .le 7, 3) := by decide +kernel
theorem dX8_crosstalk_30 : decode cX8_crosstalk 30 = .ok (.iconst 0, 1) := by decide +kernel
theorem dX8_crosstalk_31 : decode cX8_crosstalk 31 = .ok (.goto 9, 3) := by decide +kernel
theorem dX8_crosstalk_34 : decode cX8_crosstalk 34 = .ok (.aload_n 0, 1) := by decide +kernel
theorem dX8_crosstalk_35 : decode cX8_crosstalk 35 = .ok (.iload_n 1, 1) := by decide +kernel
theorem dX8_crosstalk_36 : decode cX8_crosstalk 36 = .ok (.iload_n 2, 1) := by decide +kernel
theorem dX8_crosstalk_37 : decode cX8_crosstalk 37 = .ok (.invokevirtual 199, 3) := by decide +kernel
theorem dX8_crosstalk_40 : decode cX8_crosstalk 40 = .ok (.ireturn, 1) := by decide +kernel
theorem dX8_isSplit_0 : decode cX8_isSplit 0 = .ok (.aload_n 0, 1) := by decide +kernel
theorem dX8_isSplit_1 : decode cX8_isSplit 1 = .ok (.getfield 7, 3) := by decide +kernel
theorem dX8_isSplit_4 : decode cX8_isSplit 4 = .ok (.iconst 2, 1) := by decide +kernel
theorem dX8_isSplit_5 : decode cX8_isSplit 5 = .ok (.iload_n 1, 1) := by decide +kernel
theorem dX8_isSplit_6 : decode cX8_isSplit 6 = .ok (.imul, 1) := by decide +kernel
theorem dX8_isSplit_7 : decode cX8_isSplit 7 = .ok (.iaload, 1) := by decide +kernel
theorem dX8_isSplit_8 : decode cX8_isSplit 8 = .ok (.iconst 2, 1) := by decide +kernel
theorem dX8_isSplit_9 : decode cX8_isSplit 9 = .ok (.idiv, 1) := by decide +kernel
theorem dX8_isSplit_10 : decode cX8_isSplit 10 = .ok (.aload_n 0, 1) := by decide +kernel
theorem dX8_isSplit_11 : decode cX8_isSplit 11 = .ok (.getfield 7, 3) := by decide +kernel
theorem dX8_isSplit_14 : decode cX8_isSplit 14 = .ok (.iconst 2, 1) := by decide +kernel
theorem dX8_isSplit_15 : decode cX8_isSplit 15 = .ok (.iload_n 1, 1) := by decide +kernel
theorem dX8_isSplit_16 : decode cX8_isSplit 16 = .ok (.imul, 1) := by decide +kernel
theorem dX8_isSplit_17 : decode cX8_isSplit 17 = .ok (.iconst 1, 1) := by decide +kernel
theorem dX8_isSplit_18 : decode cX8_isSplit 18 = .ok (.iadd, 1) := by decide +kernel
theorem dX8_isSplit_19 : decode cX8_isSplit 19 = .ok (.iaload, 1) := by decide +kernel
theorem dX8_isSplit_20 : decode cX8_isSplit 20 = .ok (.iconst 2, 1) := by decide +kernel
theorem dX8_isSplit_21 : decode cX8_isSplit 21 = .ok (.idiv, 1) := by decide +kernel
theorem dX8_isSplit_22 : decode cX8_isSplit 22 = .ok (.if_icmp .eq 7, 3) := by decide +kernel
theorem dX8_isSplit_25 : decode cX8_isSplit 25 = .ok (.iconst 1, 1) := by decide +kernel
theorem dX8_isSplit_26 : decode cX8_isSplit 26 = .ok (.goto 4, 3) := by decide +kernel
theorem dX8_isSplit_29 : decode cX8_isSplit 29 = .ok (.iconst 0, 1) := by decide +kernel
theorem dX8_isSplit_30 : decode cX8_isSplit 30 = .ok (.ireturn, 1) := by decide +kernel
set_option maxRecDepth 20000 in
theorem ggX8_identified_X8_layNets : GoodIn wsX8_identified wsX8_layNets := goodIn_r _ [7, 8, 9, 10, 11, 12, 13, 6, 14, 15, 16, 17, 18, 19, 20, 21, 22, 23, 24, 25, 26, 27, 28, 29, 30, 31, 32, 33, 49, 50, 51, 52, 53, 54, 55, 56, 57, 58, 59, 60, 61, 62, 63, 64, 65, 66, 67, 68, 69, 70, 71, 72, 73, 74, 75, 76, 77] (by decide +kernel) (by decide +kernel)
set_option maxRecDepth 20000 in
theorem gX8_identified_X8_layNets : GoodIn wsX8_identified (wsV RX8 96 RX8 yX8_layNets wsX8_layNets) := goodIn_app (goodIn_of _ (by decide +kernel)) ggX8_identified_X8_layNets
set_option maxRecDepth 20000 in
theorem ggX8_identified_X8_isSplit : GoodIn wsX8_identified wsX8_isSplit := goodIn_r _ [37, 9, 49, 50, 51, 52, 53, 54, 55, 56, 57, 58, 59, 60, 61, 62, 63, 64, 65, 66, 67, 68, 69, 70, 71, 72, 73, 74, 75, 76, 77] (by decide +kernel) (by decide +kernel)
set_option maxRecDepth 20000 in
theorem gX8_identified_X8_isSplit : GoodIn wsX8_identified (wsV RX8 202 RX8 yX8_isSplit wsX8_isSplit) := goodIn_app (goodIn_of _ (by decide +kernel)) ggX8_identified_X8_isSplit
set_option maxRecDepth 20000 in
theorem ggX8_identified_X8_statusNow : GoodIn wsX8_identified wsX8_statusNow := goodIn_r _ [41, 42, 43, 44, 6, 45, 8, 46, 47, 48, 49, 50, 51, 52, 53, 54, 55, 56, 57, 58, 59, 60, 61, 62, 63, 64, 65, 66, 67, 68, 69, 70, 71, 72, 73, 74, 75, 76, 77] (by decide +kernel) (by decide +kernel)
set_option maxRecDepth 20000 in
theorem gX8_identified_X8_statusNow : GoodIn wsX8_identified (wsV RX8 99 RX8 yX8_statusNow wsX8_statusNow) := goodIn_app (goodIn_of _ (by decide +kernel)) ggX8_identified_X8_statusNow
theorem dX8_identified_0 : decode cX8_identified 0 = .ok (.aload_n 0, 1) := by decide +kernel
theorem dX8_identified_1 : decode cX8_identified 1 = .ok (.aload_n 0, 1) := by decide +kernel
theorem dX8_identified_2 : decode cX8_identified 2 = .ok (.getfield 61, 3) := by decide +kernel
theorem dX8_identified_5 : decode cX8_identified 5 = .ok (.invokevirtual 96, 3) := by decide +kernel
theorem dX8_identified_8 : decode cX8_identified 8 = .ok (.iconst 0, 1) := by decide +kernel
theorem dX8_identified_9 : decode cX8_identified 9 = .ok (.istore_n 1, 1) := by decide +kernel
theorem dX8_identified_10 : decode cX8_identified 10 = .ok (.iconst 0, 1) := by decide +kernel
theorem dX8_identified_11 : decode cX8_identified 11 = .ok (.istore_n 2, 1) := by decide +kernel
theorem dX8_identified_12 : decode cX8_identified 12 = .ok (.iload_n 2, 1) := by decide +kernel
theorem dX8_identified_13 : decode cX8_identified 13 = .ok (.iconst 4, 1) := by decide +kernel
theorem dX8_identified_14 : decode cX8_identified 14 = .ok (.if_icmp .ge 49, 3) := by decide +kernel
theorem dX8_identified_17 : decode cX8_identified 17 = .ok (.iload_n 1, 1) := by decide +kernel
theorem dX8_identified_18 : decode cX8_identified 18 = .ok (.ifCond .ne 33, 3) := by decide +kernel
theorem dX8_identified_21 : decode cX8_identified 21 = .ok (.aload_n 0, 1) := by decide +kernel
theorem dX8_identified_22 : decode cX8_identified 22 = .ok (.iload_n 2, 1) := by decide +kernel
theorem dX8_identified_23 : decode cX8_identified 23 = .ok (.invokevirtual 202, 3) := by decide +kernel
theorem dX8_identified_26 : decode cX8_identified 26 = .ok (.ifCond .ne 29, 3) := by decide +kernel
theorem dX8_identified_29 : decode cX8_identified 29 = .ok (.aload_n 0, 1) := by decide +kernel
theorem dX8_identified_30 : decode cX8_identified 30 = .ok (.iconst 2, 1) := by decide +kernel
theorem dX8_identified_31 : decode cX8_identified 31 = .ok (.iload_n 2, 1) := by decide +kernel
theorem dX8_identified_32 : decode cX8_identified 32 = .ok (.imul, 1) := by decide +kernel
theorem dX8_identified_33 : decode cX8_identified 33 = .ok (.invokevirtual 99, 3) := by decide +kernel
theorem dX8_identified_36 : decode cX8_identified 36 = .ok (.ifCond .ne 19, 3) := by decide +kernel
theorem dX8_identified_39 : decode cX8_identified 39 = .ok (.aload_n 0, 1) := by decide +kernel
theorem dX8_identified_40 : decode cX8_identified 40 = .ok (.iconst 2, 1) := by decide +kernel
theorem dX8_identified_41 : decode cX8_identified 41 = .ok (.iload_n 2, 1) := by decide +kernel
theorem dX8_identified_42 : decode cX8_identified 42 = .ok (.imul, 1) := by decide +kernel
theorem dX8_identified_43 : decode cX8_identified 43 = .ok (.iconst 1, 1) := by decide +kernel
theorem dX8_identified_44 : decode cX8_identified 44 = .ok (.iadd, 1) := by decide +kernel
theorem dX8_identified_45 : decode cX8_identified 45 = .ok (.invokevirtual 99, 3) := by decide +kernel
theorem dX8_identified_48 : decode cX8_identified 48 = .ok (.ifCond .ne 7, 3) := by decide +kernel
theorem dX8_identified_51 : decode cX8_identified 51 = .ok (.iconst 1, 1) := by decide +kernel
theorem dX8_identified_52 : decode cX8_identified 52 = .ok (.goto 4, 3) := by decide +kernel
theorem dX8_identified_55 : decode cX8_identified 55 = .ok (.iconst 0, 1) := by decide +kernel
theorem dX8_identified_56 : decode cX8_identified 56 = .ok (.istore_n 1, 1) := by decide +kernel
theorem dX8_identified_57 : decode cX8_identified 57 = .ok (.iinc 2 1, 3) := by decide +kernel
theorem dX8_identified_60 : decode cX8_identified 60 = .ok (.goto (-48), 3) := by decide +kernel
theorem dX8_identified_63 : decode cX8_identified 63 = .ok (.iload_n 1, 1) := by decide +kernel
theorem dX8_identified_64 : decode cX8_identified 64 = .ok (.ifCond .eq 17, 3) := by decide +kernel
theorem dX8_identified_67 : decode cX8_identified 67 = .ok (.aload_n 0, 1) := by decide +kernel
theorem dX8_identified_68 : decode cX8_identified 68 = .ok (.getfield 58, 3) := by decide +kernel
theorem dX8_identified_71 : decode cX8_identified 71 = .ok (.ifCond .le 10, 3) := by decide +kernel
theorem dX8_identified_74 : decode cX8_identified 74 = .ok (.aload_n 0, 1) := by decide +kernel
theorem dX8_identified_75 : decode cX8_identified 75 = .ok (.getfield 58, 3) := by decide +kernel
theorem dX8_identified_78 : decode cX8_identified 78 = .ok (.goto 4, 3) := by decide +kernel
theorem dX8_identified_81 : decode cX8_identified 81 = .ok (.iconst (-1), 1) := by decide +kernel
theorem dX8_identified_82 : decode cX8_identified 82 = .ok (.ireturn, 1) := by decide +kernel
set_option maxRecDepth 20000 in
theorem ggX8_identify_X8_identified : GoodIn wsX8_identify wsX8_identified := goodIn_r _ [6, 7, 8, 9, 10, 11, 5, 12, 13, 14, 15, 16, 17, 18, 19, 20, 21, 22, 23, 24, 25, 26, 27, 28, 29, 30, 31, 32, 33, 34, 35, 36, 37, 38, 39, 40, 41, 42, 43, 44, 45, 46, 47, 48, 49, 50, 51, 52, 53, 54, 55, 56, 57, 58, 59, 60, 61, 62, 63, 64, 65, 66, 67, 68, 69, 70, 71, 72, 73, 74, 75, 76, 77, 78, 79, 80, 81, 82] (by decide +kernel) (by decide +kernel)
set_option maxRecDepth 20000 in
theorem gX8_identify_X8_identified : GoodIn wsX8_identify (wsV RX8 205 RX8 yX8_identified wsX8_identified) := goodIn_app (goodIn_of _ (by decide +kernel)) ggX8_identify_X8_identified
theorem dX8_identify_0 : decode cX8_identify 0 = .ok (.aload_n 0, 1) := by decide +kernel
theorem dX8_identify_1 : decode cX8_identify 1 = .ok (.iconst 0, 1) := by decide +kernel
theorem dX8_identify_2 : decode cX8_identify 2 = .ok (.putfield 44, 3) := by decide +kernel
theorem dX8_identify_5 : decode cX8_identify 5 = .ok (.aload_n 0, 1) := by decide +kernel
theorem dX8_identify_6 : decode cX8_identify 6 = .ok (.invokevirtual 205, 3) := by decide +kernel
theorem dX8_identify_9 : decode cX8_identify 9 = .ok (.ireturn, 1) := by decide +kernel
theorem dX8_recorded_0 : decode cX8_recorded 0 = .ok (.aload_n 0, 1) := by decide +kernel
theorem dX8_recorded_1 : decode cX8_recorded 1 = .ok (.getfield 16, 3) := by decide +kernel
theorem dX8_recorded_4 : decode cX8_recorded 4 = .ok (.iload_n 1, 1) := by decide +kernel
theorem dX8_recorded_5 : decode cX8_recorded 5 = .ok (.iaload, 1) := by decide +kernel
theorem dX8_recorded_6 : decode cX8_recorded 6 = .ok (.iload_n 2, 1) := by decide +kernel
theorem dX8_recorded_7 : decode cX8_recorded 7 = .ok (.ishr, 1) := by decide +kernel
theorem dX8_recorded_8 : decode cX8_recorded 8 = .ok (.iconst 1, 1) := by decide +kernel
theorem dX8_recorded_9 : decode cX8_recorded 9 = .ok (.iand, 1) := by decide +kernel
theorem dX8_recorded_10 : decode cX8_recorded 10 = .ok (.ireturn, 1) := by decide +kernel
set_option maxRecDepth 20000 in
theorem ggX8_wrongRecords_X8_recorded : GoodIn wsX8_wrongRecords wsX8_recorded := goodIn_r _ [6, 7, 8, 9, 10, 11, 12, 13, 14, 15, 16, 17, 18, 19, 20, 21, 22, 23, 24, 25, 26, 27, 28, 29, 30, 31, 32, 33, 34, 35, 36] (by decide +kernel) (by decide +kernel)
set_option maxRecDepth 20000 in
theorem gX8_wrongRecords_X8_recorded : GoodIn wsX8_wrongRecords (wsV RX8 208 RX8 yX8_recorded wsX8_recorded) := goodIn_app (goodIn_of _ (by decide +kernel)) ggX8_wrongRecords_X8_recorded
theorem dX8_wrongRecords_0 : decode cX8_wrongRecords 0 = .ok (.iconst 0, 1) := by decide +kernel
theorem dX8_wrongRecords_1 : decode cX8_wrongRecords 1 = .ok (.istore_n 2, 1) := by decide +kernel
theorem dX8_wrongRecords_2 : decode cX8_wrongRecords 2 = .ok (.iconst 0, 1) := by decide +kernel
theorem dX8_wrongRecords_3 : decode cX8_wrongRecords 3 = .ok (.istore_n 3, 1) := by decide +kernel
theorem dX8_wrongRecords_4 : decode cX8_wrongRecords 4 = .ok (.iload_n 3, 1) := by decide +kernel
theorem dX8_wrongRecords_5 : decode cX8_wrongRecords 5 = .ok (.aload_n 0, 1) := by decide +kernel
theorem dX8_wrongRecords_6 : decode cX8_wrongRecords 6 = .ok (.getfield 67, 3) := by decide +kernel
theorem dX8_wrongRecords_9 : decode cX8_wrongRecords 9 = .ok (.if_icmp .ge 18, 3) := by decide +kernel
theorem dX8_wrongRecords_12 : decode cX8_wrongRecords 12 = .ok (.iload_n 2, 1) := by decide +kernel
theorem dX8_wrongRecords_13 : decode cX8_wrongRecords 13 = .ok (.aload_n 0, 1) := by decide +kernel
theorem dX8_wrongRecords_14 : decode cX8_wrongRecords 14 = .ok (.iload_n 3, 1) := by decide +kernel
theorem dX8_wrongRecords_15 : decode cX8_wrongRecords 15 = .ok (.iload_n 1, 1) := by decide +kernel
theorem dX8_wrongRecords_16 : decode cX8_wrongRecords 16 = .ok (.invokevirtual 208, 3) := by decide +kernel
theorem dX8_wrongRecords_19 : decode cX8_wrongRecords 19 = .ok (.iadd, 1) := by decide +kernel
theorem dX8_wrongRecords_20 : decode cX8_wrongRecords 20 = .ok (.istore_n 2, 1) := by decide +kernel
theorem dX8_wrongRecords_21 : decode cX8_wrongRecords 21 = .ok (.iinc 3 1, 3) := by decide +kernel
theorem dX8_wrongRecords_24 : decode cX8_wrongRecords 24 = .ok (.goto (-20), 3) := by decide +kernel
theorem dX8_wrongRecords_27 : decode cX8_wrongRecords 27 = .ok (.iload_n 2, 1) := by decide +kernel
theorem dX8_wrongRecords_28 : decode cX8_wrongRecords 28 = .ok (.ireturn, 1) := by decide +kernel
set_option maxRecDepth 20000 in
theorem ggX8_longest_X8_recorded : GoodIn wsX8_longest wsX8_recorded := goodIn_r _ [6, 7, 8, 9, 10, 11, 12, 13, 14, 15, 16, 17, 18, 19, 20, 21, 22, 23, 24, 25, 26, 27, 28, 29, 30, 31, 32, 33, 34, 35, 36] (by decide +kernel) (by decide +kernel)
set_option maxRecDepth 20000 in
theorem gX8_longest_X8_recorded : GoodIn wsX8_longest (wsV RX8 208 RX8 yX8_recorded wsX8_recorded) := goodIn_app (goodIn_of _ (by decide +kernel)) ggX8_longest_X8_recorded
theorem dX8_longest_0 : decode cX8_longest 0 = .ok (.iconst 0, 1) := by decide +kernel
theorem dX8_longest_1 : decode cX8_longest 1 = .ok (.istore_n 2, 1) := by decide +kernel
theorem dX8_longest_2 : decode cX8_longest 2 = .ok (.iconst 0, 1) := by decide +kernel
theorem dX8_longest_3 : decode cX8_longest 3 = .ok (.istore_n 3, 1) := by decide +kernel
theorem dX8_longest_4 : decode cX8_longest 4 = .ok (.iconst 0, 1) := by decide +kernel
theorem dX8_longest_5 : decode cX8_longest 5 = .ok (.istore 4, 2) := by decide +kernel
theorem dX8_longest_7 : decode cX8_longest 7 = .ok (.iload 4, 2) := by decide +kernel
theorem dX8_longest_9 : decode cX8_longest 9 = .ok (.aload_n 0, 1) := by decide +kernel
theorem dX8_longest_10 : decode cX8_longest 10 = .ok (.getfield 67, 3) := by decide +kernel
theorem dX8_longest_13 : decode cX8_longest 13 = .ok (.if_icmp .ge 39, 3) := by decide +kernel
theorem dX8_longest_16 : decode cX8_longest 16 = .ok (.aload_n 0, 1) := by decide +kernel
theorem dX8_longest_17 : decode cX8_longest 17 = .ok (.iload 4, 2) := by decide +kernel
theorem dX8_longest_19 : decode cX8_longest 19 = .ok (.iload_n 1, 1) := by decide +kernel
theorem dX8_longest_20 : decode cX8_longest 20 = .ok (.invokevirtual 208, 3) := by decide +kernel
theorem dX8_longest_23 : decode cX8_longest 23 = .ok (.iconst 1, 1) := by decide +kernel
theorem dX8_longest_24 : decode cX8_longest 24 = .ok (.if_icmp .ne 9, 3) := by decide +kernel
theorem dX8_longest_27 : decode cX8_longest 27 = .ok (.iload_n 3, 1) := by decide +kernel
theorem dX8_longest_28 : decode cX8_longest 28 = .ok (.iconst 1, 1) := by decide +kernel
theorem dX8_longest_29 : decode cX8_longest 29 = .ok (.iadd, 1) := by decide +kernel
theorem dX8_longest_30 : decode cX8_longest 30 = .ok (.goto 4, 3) := by decide +kernel
theorem dX8_longest_33 : decode cX8_longest 33 = .ok (.iconst 0, 1) := by decide +kernel
theorem dX8_longest_34 : decode cX8_longest 34 = .ok (.istore_n 3, 1) := by decide +kernel
theorem dX8_longest_35 : decode cX8_longest 35 = .ok (.iload_n 3, 1) := by decide +kernel
theorem dX8_longest_36 : decode cX8_longest 36 = .ok (.iload_n 2, 1) := by decide +kernel
theorem dX8_longest_37 : decode cX8_longest 37 = .ok (.if_icmp .le 7, 3) := by decide +kernel
theorem dX8_longest_40 : decode cX8_longest 40 = .ok (.iload_n 3, 1) := by decide +kernel
theorem dX8_longest_41 : decode cX8_longest 41 = .ok (.goto 4, 3) := by decide +kernel
theorem dX8_longest_44 : decode cX8_longest 44 = .ok (.iload_n 2, 1) := by decide +kernel
theorem dX8_longest_45 : decode cX8_longest 45 = .ok (.istore_n 2, 1) := by decide +kernel
theorem dX8_longest_46 : decode cX8_longest 46 = .ok (.iinc 4 1, 3) := by decide +kernel
theorem dX8_longest_49 : decode cX8_longest 49 = .ok (.goto (-42), 3) := by decide +kernel
theorem dX8_longest_52 : decode cX8_longest 52 = .ok (.iload_n 2, 1) := by decide +kernel
theorem dX8_longest_53 : decode cX8_longest 53 = .ok (.ireturn, 1) := by decide +kernel
set_option maxRecDepth 20000 in
theorem ggX8_unlike_X8_recorded : GoodIn wsX8_unlike wsX8_recorded := goodIn_r _ [6, 7, 8, 9, 10, 11, 12, 13, 14, 15, 16, 17, 18, 19, 20, 21, 22, 23, 24, 25, 26, 27, 28, 29, 30, 31, 32, 33, 34, 35, 36] (by decide +kernel) (by decide +kernel)
set_option maxRecDepth 20000 in
theorem gX8_unlike_X8_recorded : GoodIn wsX8_unlike (wsV RX8 208 RX8 yX8_recorded wsX8_recorded) := goodIn_app (goodIn_of _ (by decide +kernel)) ggX8_unlike_X8_recorded
theorem dX8_unlike_0 : decode cX8_unlike 0 = .ok (.iconst 0, 1) := by decide +kernel
theorem dX8_unlike_1 : decode cX8_unlike 1 = .ok (.istore_n 3, 1) := by decide +kernel
theorem dX8_unlike_2 : decode cX8_unlike 2 = .ok (.iload_n 2, 1) := by decide +kernel
theorem dX8_unlike_3 : decode cX8_unlike 3 = .ok (.istore 4, 2) := by decide +kernel
theorem dX8_unlike_5 : decode cX8_unlike 5 = .ok (.iload 4, 2) := by decide +kernel
theorem dX8_unlike_7 : decode cX8_unlike 7 = .ok (.aload_n 0, 1) := by decide +kernel
theorem dX8_unlike_8 : decode cX8_unlike 8 = .ok (.getfield 67, 3) := by decide +kernel
theorem dX8_unlike_11 : decode cX8_unlike 11 = .ok (.if_icmp .ge 36, 3) := by decide +kernel
theorem dX8_unlike_14 : decode cX8_unlike 14 = .ok (.iload_n 3, 1) := by decide +kernel
theorem dX8_unlike_15 : decode cX8_unlike 15 = .ok (.aload_n 0, 1) := by decide +kernel
theorem dX8_unlike_16 : decode cX8_unlike 16 = .ok (.iload 4, 2) := by decide +kernel
theorem dX8_unlike_18 : decode cX8_unlike 18 = .ok (.iload_n 1, 1) := by decide +kernel
theorem dX8_unlike_19 : decode cX8_unlike 19 = .ok (.invokevirtual 208, 3) := by decide +kernel
theorem dX8_unlike_22 : decode cX8_unlike 22 = .ok (.aload_n 0, 1) := by decide +kernel
theorem dX8_unlike_23 : decode cX8_unlike 23 = .ok (.iload 4, 2) := by decide +kernel
theorem dX8_unlike_25 : decode cX8_unlike 25 = .ok (.iload_n 2, 1) := by decide +kernel
theorem dX8_unlike_26 : decode cX8_unlike 26 = .ok (.isub, 1) := by decide +kernel
theorem dX8_unlike_27 : decode cX8_unlike 27 = .ok (.iload_n 1, 1) := by decide +kernel
theorem dX8_unlike_28 : decode cX8_unlike 28 = .ok (.invokevirtual 208, 3) := by decide +kernel
theorem dX8_unlike_31 : decode cX8_unlike 31 = .ok (.if_icmp .ne 7, 3) := by decide +kernel
theorem dX8_unlike_34 : decode cX8_unlike 34 = .ok (.iconst 0, 1) := by decide +kernel
theorem dX8_unlike_35 : decode cX8_unlike 35 = .ok (.goto 4, 3) := by decide +kernel
theorem dX8_unlike_38 : decode cX8_unlike 38 = .ok (.iconst 1, 1) := by decide +kernel
theorem dX8_unlike_39 : decode cX8_unlike 39 = .ok (.iadd, 1) := by decide +kernel
theorem dX8_unlike_40 : decode cX8_unlike 40 = .ok (.istore_n 3, 1) := by decide +kernel
theorem dX8_unlike_41 : decode cX8_unlike 41 = .ok (.iinc 4 1, 3) := by decide +kernel
theorem dX8_unlike_44 : decode cX8_unlike 44 = .ok (.goto (-39), 3) := by decide +kernel
theorem dX8_unlike_47 : decode cX8_unlike 47 = .ok (.iload_n 3, 1) := by decide +kernel
theorem dX8_unlike_48 : decode cX8_unlike 48 = .ok (.ireturn, 1) := by decide +kernel
set_option maxRecDepth 20000 in
theorem ggX8_period_X8_unlike : GoodIn wsX8_period wsX8_unlike := goodIn_r _ [6, 1, 7, 8, 9, 5, 10, 11, 12, 13, 14, 15, 16, 17, 18, 19, 20, 21, 22, 23, 24, 25, 26, 27, 28, 29, 30, 31, 32, 33, 34, 35, 36, 37, 38, 39, 40] (by decide +kernel) (by decide +kernel)
set_option maxRecDepth 20000 in
theorem gX8_period_X8_unlike : GoodIn wsX8_period (wsV RX8 211 RX8 yX8_unlike wsX8_unlike) := goodIn_app (goodIn_of _ (by decide +kernel)) ggX8_period_X8_unlike
theorem dX8_period_0 : decode cX8_period 0 = .ok (.iconst 1, 1) := by decide +kernel
theorem dX8_period_1 : decode cX8_period 1 = .ok (.istore_n 2, 1) := by decide +kernel
theorem dX8_period_2 : decode cX8_period 2 = .ok (.iload_n 2, 1) := by decide +kernel
theorem dX8_period_3 : decode cX8_period 3 = .ok (.bipush 32, 2) := by decide +kernel
theorem dX8_period_5 : decode cX8_period 5 = .ok (.if_icmp .gt 30, 3) := by decide +kernel
theorem dX8_period_8 : decode cX8_period 8 = .ok (.iconst 2, 1) := by decide +kernel
theorem dX8_period_9 : decode cX8_period 9 = .ok (.iload_n 2, 1) := by decide +kernel
theorem dX8_period_10 : decode cX8_period 10 = .ok (.imul, 1) := by decide +kernel
theorem dX8_period_11 : decode cX8_period 11 = .ok (.aload_n 0, 1) := by decide +kernel
theorem dX8_period_12 : decode cX8_period 12 = .ok (.getfield 67, 3) := by decide +kernel
theorem dX8_period_15 : decode cX8_period 15 = .ok (.if_icmp .gt 20, 3) := by decide +kernel
theorem dX8_period_18 : decode cX8_period 18 = .ok (.aload_n 0, 1) := by decide +kernel
theorem dX8_period_19 : decode cX8_period 19 = .ok (.iload_n 1, 1) := by decide +kernel
theorem dX8_period_20 : decode cX8_period 20 = .ok (.iload_n 2, 1) := by decide +kernel
theorem dX8_period_21 : decode cX8_period 21 = .ok (.invokevirtual 211, 3) := by decide +kernel
theorem dX8_period_24 : decode cX8_period 24 = .ok (.ifCond .ne 5, 3) := by decide +kernel
theorem dX8_period_27 : decode cX8_period 27 = .ok (.iload_n 2, 1) := by decide +kernel
theorem dX8_period_28 : decode cX8_period 28 = .ok (.ireturn, 1) := by decide +kernel
theorem dX8_period_29 : decode cX8_period 29 = .ok (.iinc 2 1, 3) := by decide +kernel
theorem dX8_period_32 : decode cX8_period 32 = .ok (.goto (-30), 3) := by decide +kernel
theorem dX8_period_35 : decode cX8_period 35 = .ok (.iconst (-1), 1) := by decide +kernel
theorem dX8_period_36 : decode cX8_period 36 = .ok (.ireturn, 1) := by decide +kernel
set_option maxRecDepth 20000 in
theorem ggX8_recordsNow_X8_wrongRecords : GoodIn wsX8_recordsNow wsX8_wrongRecords := goodIn_r _ [6, 1, 7, 8, 9, 5, 10, 11, 24, 25, 26, 27, 28, 29, 30, 31, 32, 33, 34, 35, 36, 37, 38, 39, 40, 41, 42, 43, 44, 45, 46, 47, 48, 49, 50, 51, 52] (by decide +kernel) (by decide +kernel)
set_option maxRecDepth 20000 in
theorem gX8_recordsNow_X8_wrongRecords : GoodIn wsX8_recordsNow (wsV RX8 214 RX8 yX8_wrongRecords wsX8_wrongRecords) := goodIn_app (goodIn_of _ (by decide +kernel)) ggX8_recordsNow_X8_wrongRecords
set_option maxRecDepth 20000 in
theorem ggX8_recordsNow_X8_longest : GoodIn wsX8_recordsNow wsX8_longest := goodIn_r _ [15, 1, 7, 8, 9, 5, 10, 11, 24, 25, 26, 27, 28, 29, 30, 31, 32, 33, 34, 35, 36, 37, 38, 39, 40, 41, 42, 43, 44, 45, 46, 47, 48, 49, 50, 51, 52] (by decide +kernel) (by decide +kernel)
set_option maxRecDepth 20000 in
theorem gX8_recordsNow_X8_longest : GoodIn wsX8_recordsNow (wsV RX8 217 RX8 yX8_longest wsX8_longest) := goodIn_app (goodIn_of _ (by decide +kernel)) ggX8_recordsNow_X8_longest
set_option maxRecDepth 20000 in
theorem ggX8_recordsNow_X8_unlike : GoodIn wsX8_recordsNow wsX8_unlike := goodIn_r _ [19, 1, 7, 8, 9, 5, 10, 11, 24, 25, 26, 27, 28, 29, 30, 31, 32, 33, 34, 35, 36, 37, 38, 39, 40, 41, 42, 43, 44, 45, 46, 47, 48, 49, 50, 51, 52] (by decide +kernel) (by decide +kernel)
set_option maxRecDepth 20000 in
theorem gX8_recordsNow_X8_unlike : GoodIn wsX8_recordsNow (wsV RX8 211 RX8 yX8_unlike wsX8_unlike) := goodIn_app (goodIn_of _ (by decide +kernel)) ggX8_recordsNow_X8_unlike
set_option maxRecDepth 20000 in
theorem ggX8_recordsNow_X8_period : GoodIn wsX8_recordsNow wsX8_period := goodIn_r _ [23, 1, 16, 17, 18, 5, 19, 7, 8, 9, 10, 11, 24, 25, 26, 27, 28, 29, 30, 31, 32, 33, 34, 35, 36, 37, 38, 39, 40, 41, 42, 43, 44, 45, 46, 47, 48, 49, 50, 51, 52] (by decide +kernel) (by decide +kernel)
set_option maxRecDepth 20000 in
theorem gX8_recordsNow_X8_period : GoodIn wsX8_recordsNow (wsV RX8 220 RX8 yX8_period wsX8_period) := goodIn_app (goodIn_of _ (by decide +kernel)) ggX8_recordsNow_X8_period
theorem dX8_recordsNow_0 : decode cX8_recordsNow 0 = .ok (.iload_n 2, 1) := by decide +kernel
theorem dX8_recordsNow_1 : decode cX8_recordsNow 1 = .ok (.tableswitch 55 0 3 #[31, 36, 42, 48], 31) := by decide +kernel
theorem dX8_recordsNow_32 : decode cX8_recordsNow 32 = .ok (.aload_n 0, 1) := by decide +kernel
theorem dX8_recordsNow_33 : decode cX8_recordsNow 33 = .ok (.getfield 67, 3) := by decide +kernel
theorem dX8_recordsNow_36 : decode cX8_recordsNow 36 = .ok (.ireturn, 1) := by decide +kernel
theorem dX8_recordsNow_37 : decode cX8_recordsNow 37 = .ok (.aload_n 0, 1) := by decide +kernel
theorem dX8_recordsNow_38 : decode cX8_recordsNow 38 = .ok (.iload_n 1, 1) := by decide +kernel
theorem dX8_recordsNow_39 : decode cX8_recordsNow 39 = .ok (.invokevirtual 214, 3) := by decide +kernel
theorem dX8_recordsNow_42 : decode cX8_recordsNow 42 = .ok (.ireturn, 1) := by decide +kernel
theorem dX8_recordsNow_43 : decode cX8_recordsNow 43 = .ok (.aload_n 0, 1) := by decide +kernel
theorem dX8_recordsNow_44 : decode cX8_recordsNow 44 = .ok (.iload_n 1, 1) := by decide +kernel
theorem dX8_recordsNow_45 : decode cX8_recordsNow 45 = .ok (.invokevirtual 217, 3) := by decide +kernel
theorem dX8_recordsNow_48 : decode cX8_recordsNow 48 = .ok (.ireturn, 1) := by decide +kernel
theorem dX8_recordsNow_49 : decode cX8_recordsNow 49 = .ok (.aload_n 0, 1) := by decide +kernel
theorem dX8_recordsNow_50 : decode cX8_recordsNow 50 = .ok (.iload_n 1, 1) := by decide +kernel
theorem dX8_recordsNow_51 : decode cX8_recordsNow 51 = .ok (.iconst 1, 1) := by decide +kernel
theorem dX8_recordsNow_52 : decode cX8_recordsNow 52 = .ok (.invokevirtual 211, 3) := by decide +kernel
theorem dX8_recordsNow_55 : decode cX8_recordsNow 55 = .ok (.ireturn, 1) := by decide +kernel
theorem dX8_recordsNow_56 : decode cX8_recordsNow 56 = .ok (.aload_n 0, 1) := by decide +kernel
theorem dX8_recordsNow_57 : decode cX8_recordsNow 57 = .ok (.iload_n 1, 1) := by decide +kernel
theorem dX8_recordsNow_58 : decode cX8_recordsNow 58 = .ok (.invokevirtual 220, 3) := by decide +kernel
theorem dX8_recordsNow_61 : decode cX8_recordsNow 61 = .ok (.ireturn, 1) := by decide +kernel
set_option maxRecDepth 20000 in
theorem ggX8_records_X8_isWire : GoodIn wsX8_records wsX8_isWire := goodIn_r _ [5, 6, 7, 4, 8] (by decide +kernel) (by decide +kernel)
set_option maxRecDepth 20000 in
theorem gX8_records_X8_isWire : GoodIn wsX8_records (va_wsS RX8 106 yX8_isWire wsX8_isWire) := goodIn_app (goodIn_of _ (by decide +kernel)) ggX8_records_X8_isWire
set_option maxRecDepth 20000 in
theorem ggX8_records_X8_within : GoodIn wsX8_records wsX8_within := goodIn_r _ [8] (by decide +kernel) (by decide +kernel)
set_option maxRecDepth 20000 in
theorem gX8_records_X8_within : GoodIn wsX8_records (va_wsS RX8 48 yX8_within wsX8_within) := goodIn_app (goodIn_of _ (by decide +kernel)) ggX8_records_X8_within
set_option maxRecDepth 20000 in
theorem ggX8_records_X8_recordsNow : GoodIn wsX8_records wsX8_recordsNow := goodIn_r _ [12, 13, 14, 15, 16, 4, 17, 18, 19, 20, 21, 22, 23, 24, 25, 26, 27, 28, 29, 30, 31, 32, 33, 34, 35, 36, 37, 38, 39, 40, 41, 42, 43, 44, 45, 46, 47, 48, 49, 50, 51, 52, 53, 54, 55, 56, 57, 58, 59, 60, 61, 62, 63] (by decide +kernel) (by decide +kernel)
set_option maxRecDepth 20000 in
theorem gX8_records_X8_recordsNow : GoodIn wsX8_records (wsV RX8 222 RX8 yX8_recordsNow wsX8_recordsNow) := goodIn_app (goodIn_of _ (by decide +kernel)) ggX8_records_X8_recordsNow
theorem dX8_records_0 : decode cX8_records 0 = .ok (.aload_n 0, 1) := by decide +kernel
theorem dX8_records_1 : decode cX8_records 1 = .ok (.iload_n 1, 1) := by decide +kernel
theorem dX8_records_2 : decode cX8_records 2 = .ok (.invokestatic 106, 3) := by decide +kernel
theorem dX8_records_5 : decode cX8_records 5 = .ok (.ifCond .ne 7, 3) := by decide +kernel
theorem dX8_records_8 : decode cX8_records 8 = .ok (.iconst 1, 1) := by decide +kernel
theorem dX8_records_9 : decode cX8_records 9 = .ok (.goto 17, 3) := by decide +kernel
theorem dX8_records_12 : decode cX8_records 12 = .ok (.iload_n 2, 1) := by decide +kernel
theorem dX8_records_13 : decode cX8_records 13 = .ok (.iconst 0, 1) := by decide +kernel
theorem dX8_records_14 : decode cX8_records 14 = .ok (.iconst 4, 1) := by decide +kernel
theorem dX8_records_15 : decode cX8_records 15 = .ok (.invokestatic 48, 3) := by decide +kernel
theorem dX8_records_18 : decode cX8_records 18 = .ok (.ifCond .eq 7, 3) := by decide +kernel
theorem dX8_records_21 : decode cX8_records 21 = .ok (.iconst 0, 1) := by decide +kernel
theorem dX8_records_22 : decode cX8_records 22 = .ok (.goto 4, 3) := by decide +kernel
theorem dX8_records_25 : decode cX8_records 25 = .ok (.iconst 2, 1) := by decide +kernel
theorem dX8_records_26 : decode cX8_records 26 = .ok (.putfield 44, 3) := by decide +kernel
theorem dX8_records_29 : decode cX8_records 29 = .ok (.aload_n 0, 1) := by decide +kernel
theorem dX8_records_30 : decode cX8_records 30 = .ok (.getfield 44, 3) := by decide +kernel
theorem dX8_records_33 : decode cX8_records 33 = .ok (.ifCond .le 7, 3) := by decide +kernel
theorem dX8_records_36 : decode cX8_records 36 = .ok (.iconst 0, 1) := by decide +kernel
theorem dX8_records_37 : decode cX8_records 37 = .ok (.goto 9, 3) := by decide +kernel
theorem dX8_records_40 : decode cX8_records 40 = .ok (.aload_n 0, 1) := by decide +kernel
theorem dX8_records_41 : decode cX8_records 41 = .ok (.iload_n 1, 1) := by decide +kernel
theorem dX8_records_42 : decode cX8_records 42 = .ok (.iload_n 2, 1) := by decide +kernel
theorem dX8_records_43 : decode cX8_records 43 = .ok (.invokevirtual 222, 3) := by decide +kernel
theorem dX8_records_46 : decode cX8_records 46 = .ok (.ireturn, 1) := by decide +kernel
set_option maxRecDepth 20000 in
theorem ggX8_suspected_X8_wrongRecords : GoodIn wsX8_suspected wsX8_wrongRecords := goodIn_r _ [5, 6, 7, 8, 9, 4, 10, 11, 12, 13, 14, 15, 16, 17, 18, 19, 20, 21, 22, 23, 24, 25, 26, 27, 28, 29, 30, 31, 32, 33, 34, 35, 36, 37, 38, 39, 40] (by decide +kernel) (by decide +kernel)
set_option maxRecDepth 20000 in
theorem gX8_suspected_X8_wrongRecords : GoodIn wsX8_suspected (wsV RX8 214 RX8 yX8_wrongRecords wsX8_wrongRecords) := goodIn_app (goodIn_of _ (by decide +kernel)) ggX8_suspected_X8_wrongRecords
theorem dX8_suspected_0 : decode cX8_suspected 0 = .ok (.iconst (-1), 1) := by decide +kernel
theorem dX8_suspected_1 : decode cX8_suspected 1 = .ok (.istore_n 1, 1) := by decide +kernel
theorem dX8_suspected_2 : decode cX8_suspected 2 = .ok (.iconst 0, 1) := by decide +kernel
theorem dX8_suspected_3 : decode cX8_suspected 3 = .ok (.istore_n 2, 1) := by decide +kernel
theorem dX8_suspected_4 : decode cX8_suspected 4 = .ok (.iconst 0, 1) := by decide +kernel
theorem dX8_suspected_5 : decode cX8_suspected 5 = .ok (.istore_n 3, 1) := by decide +kernel
theorem dX8_suspected_6 : decode cX8_suspected 6 = .ok (.iload_n 3, 1) := by decide +kernel
theorem dX8_suspected_7 : decode cX8_suspected 7 = .ok (.bipush 8, 2) := by decide +kernel
theorem dX8_suspected_9 : decode cX8_suspected 9 = .ok (.if_icmp .ge 41, 3) := by decide +kernel
theorem dX8_suspected_12 : decode cX8_suspected 12 = .ok (.aload_n 0, 1) := by decide +kernel
theorem dX8_suspected_13 : decode cX8_suspected 13 = .ok (.iload_n 3, 1) := by decide +kernel
theorem dX8_suspected_14 : decode cX8_suspected 14 = .ok (.invokevirtual 214, 3) := by decide +kernel
theorem dX8_suspected_17 : decode cX8_suspected 17 = .ok (.istore 4, 2) := by decide +kernel
theorem dX8_suspected_19 : decode cX8_suspected 19 = .ok (.iload 4, 2) := by decide +kernel
theorem dX8_suspected_21 : decode cX8_suspected 21 = .ok (.iload_n 2, 1) := by decide +kernel
theorem dX8_suspected_22 : decode cX8_suspected 22 = .ok (.if_icmp .le 7, 3) := by decide +kernel
theorem dX8_suspected_25 : decode cX8_suspected 25 = .ok (.iload_n 3, 1) := by decide +kernel
theorem dX8_suspected_26 : decode cX8_suspected 26 = .ok (.goto 4, 3) := by decide +kernel
theorem dX8_suspected_29 : decode cX8_suspected 29 = .ok (.iload_n 1, 1) := by decide +kernel
theorem dX8_suspected_30 : decode cX8_suspected 30 = .ok (.istore_n 1, 1) := by decide +kernel
theorem dX8_suspected_31 : decode cX8_suspected 31 = .ok (.iload 4, 2) := by decide +kernel
theorem dX8_suspected_33 : decode cX8_suspected 33 = .ok (.iload_n 2, 1) := by decide +kernel
theorem dX8_suspected_34 : decode cX8_suspected 34 = .ok (.if_icmp .le 8, 3) := by decide +kernel
theorem dX8_suspected_37 : decode cX8_suspected 37 = .ok (.iload 4, 2) := by decide +kernel
theorem dX8_suspected_39 : decode cX8_suspected 39 = .ok (.goto 4, 3) := by decide +kernel
theorem dX8_suspected_42 : decode cX8_suspected 42 = .ok (.iload_n 2, 1) := by decide +kernel
theorem dX8_suspected_43 : decode cX8_suspected 43 = .ok (.istore_n 2, 1) := by decide +kernel
theorem dX8_suspected_44 : decode cX8_suspected 44 = .ok (.iinc 3 1, 3) := by decide +kernel
theorem dX8_suspected_47 : decode cX8_suspected 47 = .ok (.goto (-41), 3) := by decide +kernel
theorem dX8_suspected_50 : decode cX8_suspected 50 = .ok (.iload_n 1, 1) := by decide +kernel
theorem dX8_suspected_51 : decode cX8_suspected 51 = .ok (.ireturn, 1) := by decide +kernel
set_option maxRecDepth 20000 in
theorem ggX8_suspect_X8_suspected : GoodIn wsX8_suspect wsX8_suspected := goodIn_r _ [6, 7, 8, 9, 5, 10, 11, 12, 13, 14, 15, 16, 17, 18, 19, 20, 21, 22, 23, 24, 25, 26, 27, 28, 29, 30, 31, 32, 33, 34, 35, 36, 37, 38, 39, 40, 41, 42, 43, 44, 45] (by decide +kernel) (by decide +kernel)
set_option maxRecDepth 20000 in
theorem gX8_suspect_X8_suspected : GoodIn wsX8_suspect (wsV RX8 225 RX8 yX8_suspected wsX8_suspected) := goodIn_app (goodIn_of _ (by decide +kernel)) ggX8_suspect_X8_suspected
theorem dX8_suspect_0 : decode cX8_suspect 0 = .ok (.aload_n 0, 1) := by decide +kernel
theorem dX8_suspect_1 : decode cX8_suspect 1 = .ok (.iconst 0, 1) := by decide +kernel
theorem dX8_suspect_2 : decode cX8_suspect 2 = .ok (.putfield 44, 3) := by decide +kernel
theorem dX8_suspect_5 : decode cX8_suspect 5 = .ok (.aload_n 0, 1) := by decide +kernel
theorem dX8_suspect_6 : decode cX8_suspect 6 = .ok (.invokevirtual 225, 3) := by decide +kernel
theorem dX8_suspect_9 : decode cX8_suspect 9 = .ok (.ireturn, 1) := by decide +kernel
set_option maxRecDepth 20000 in
theorem ggX8_nextChange_X8_wrong : GoodIn wsX8_nextChange wsX8_wrong := goodIn_r _ [7, 8, 9, 10, 6, 11, 12, 13, 14, 15, 16, 17, 18, 19, 20, 21, 22, 23, 24, 25, 26, 27, 28, 29, 30, 31, 32, 33, 34, 35, 36, 37, 38, 39, 40, 41, 42, 43, 44, 45, 46, 47, 48, 49, 50, 51, 52, 53, 54, 55, 56, 57, 58, 59, 60, 61, 62, 63, 64, 65, 66, 67, 68, 69, 70, 71, 72, 73, 74, 75, 76, 77] (by decide +kernel) (by decide +kernel)
set_option maxRecDepth 20000 in
theorem gX8_nextChange_X8_wrong : GoodIn wsX8_nextChange (wsV RX8 120 RX8 yX8_wrong wsX8_wrong) := goodIn_app (goodIn_of _ (by decide +kernel)) ggX8_nextChange_X8_wrong
theorem dX8_nextChange_0 : decode cX8_nextChange 0 = .ok (.aload_n 0, 1) := by decide +kernel
theorem dX8_nextChange_1 : decode cX8_nextChange 1 = .ok (.iconst 0, 1) := by decide +kernel
theorem dX8_nextChange_2 : decode cX8_nextChange 2 = .ok (.putfield 44, 3) := by decide +kernel
theorem dX8_nextChange_5 : decode cX8_nextChange 5 = .ok (.aload_n 0, 1) := by decide +kernel
theorem dX8_nextChange_6 : decode cX8_nextChange 6 = .ok (.aload_n 0, 1) := by decide +kernel
theorem dX8_nextChange_7 : decode cX8_nextChange 7 = .ok (.getfield 61, 3) := by decide +kernel
theorem dX8_nextChange_10 : decode cX8_nextChange 10 = .ok (.invokevirtual 120, 3) := by decide +kernel
theorem dX8_nextChange_13 : decode cX8_nextChange 13 = .ok (.istore_n 1, 1) := by decide +kernel
theorem dX8_nextChange_14 : decode cX8_nextChange 14 = .ok (.iconst 1, 1) := by decide +kernel
theorem dX8_nextChange_15 : decode cX8_nextChange 15 = .ok (.istore_n 2, 1) := by decide +kernel
theorem dX8_nextChange_16 : decode cX8_nextChange 16 = .ok (.iload_n 2, 1) := by decide +kernel
theorem dX8_nextChange_17 : decode cX8_nextChange 17 = .ok (.bipush 100, 2) := by decide +kernel
theorem dX8_nextChange_19 : decode cX8_nextChange 19 = .ok (.if_icmp .gt 23, 3) := by decide +kernel
theorem dX8_nextChange_22 : decode cX8_nextChange 22 = .ok (.aload_n 0, 1) := by decide +kernel
theorem dX8_nextChange_23 : decode cX8_nextChange 23 = .ok (.aload_n 0, 1) := by decide +kernel
theorem dX8_nextChange_24 : decode cX8_nextChange 24 = .ok (.getfield 61, 3) := by decide +kernel
theorem dX8_nextChange_27 : decode cX8_nextChange 27 = .ok (.iload_n 2, 1) := by decide +kernel
theorem dX8_nextChange_28 : decode cX8_nextChange 28 = .ok (.iadd, 1) := by decide +kernel
theorem dX8_nextChange_29 : decode cX8_nextChange 29 = .ok (.invokevirtual 120, 3) := by decide +kernel
theorem dX8_nextChange_32 : decode cX8_nextChange 32 = .ok (.iload_n 1, 1) := by decide +kernel
theorem dX8_nextChange_33 : decode cX8_nextChange 33 = .ok (.if_icmp .ne 9, 3) := by decide +kernel
theorem dX8_nextChange_36 : decode cX8_nextChange 36 = .ok (.iinc 2 1, 3) := by decide +kernel
theorem dX8_nextChange_39 : decode cX8_nextChange 39 = .ok (.goto (-23), 3) := by decide +kernel
theorem dX8_nextChange_42 : decode cX8_nextChange 42 = .ok (.iload_n 2, 1) := by decide +kernel
theorem dX8_nextChange_43 : decode cX8_nextChange 43 = .ok (.bipush 100, 2) := by decide +kernel
theorem dX8_nextChange_45 : decode cX8_nextChange 45 = .ok (.if_icmp .gt 7, 3) := by decide +kernel
theorem dX8_nextChange_48 : decode cX8_nextChange 48 = .ok (.iload_n 2, 1) := by decide +kernel
theorem dX8_nextChange_49 : decode cX8_nextChange 49 = .ok (.goto 4, 3) := by decide +kernel
theorem dX8_nextChange_52 : decode cX8_nextChange 52 = .ok (.iconst (-1), 1) := by decide +kernel
theorem dX8_nextChange_53 : decode cX8_nextChange 53 = .ok (.ireturn, 1) := by decide +kernel
theorem dX8_cycles_0 : decode cX8_cycles 0 = .ok (.iconst 0, 1) := by decide +kernel
theorem dX8_cycles_1 : decode cX8_cycles 1 = .ok (.istore_n 1, 1) := by decide +kernel
theorem dX8_cycles_2 : decode cX8_cycles 2 = .ok (.iconst 0, 1) := by decide +kernel
theorem dX8_cycles_3 : decode cX8_cycles 3 = .ok (.istore_n 2, 1) := by decide +kernel
theorem dX8_cycles_4 : decode cX8_cycles 4 = .ok (.iconst 0, 1) := by decide +kernel
theorem dX8_cycles_5 : decode cX8_cycles 5 = .ok (.istore_n 3, 1) := by decide +kernel
theorem dX8_cycles_6 : decode cX8_cycles 6 = .ok (.iload_n 3, 1) := by decide +kernel
theorem dX8_cycles_7 : decode cX8_cycles 7 = .ok (.bipush 8, 2) := by decide +kernel
theorem dX8_cycles_9 : decode cX8_cycles 9 = .ok (.if_icmp .ge 50, 3) := by decide +kernel
theorem dX8_cycles_12 : decode cX8_cycles 12 = .ok (.iload_n 1, 1) := by decide +kernel
theorem dX8_cycles_13 : decode cX8_cycles 13 = .ok (.iload_n 2, 1) := by decide +kernel
theorem dX8_cycles_14 : decode cX8_cycles 14 = .ok (.iload_n 3, 1) := by decide +kernel
theorem dX8_cycles_15 : decode cX8_cycles 15 = .ok (.ishr, 1) := by decide +kernel
theorem dX8_cycles_16 : decode cX8_cycles 16 = .ok (.iconst 1, 1) := by decide +kernel
theorem dX8_cycles_17 : decode cX8_cycles 17 = .ok (.iand, 1) := by decide +kernel
theorem dX8_cycles_18 : decode cX8_cycles 18 = .ok (.iconst 1, 1) := by decide +kernel
theorem dX8_cycles_19 : decode cX8_cycles 19 = .ok (.ixor, 1) := by decide +kernel
theorem dX8_cycles_20 : decode cX8_cycles 20 = .ok (.iadd, 1) := by decide +kernel
theorem dX8_cycles_21 : decode cX8_cycles 21 = .ok (.istore_n 1, 1) := by decide +kernel
theorem dX8_cycles_22 : decode cX8_cycles 22 = .ok (.iload_n 3, 1) := by decide +kernel
theorem dX8_cycles_23 : decode cX8_cycles 23 = .ok (.istore 4, 2) := by decide +kernel
theorem dX8_cycles_25 : decode cX8_cycles 25 = .ok (.iload_n 2, 1) := by decide +kernel
theorem dX8_cycles_26 : decode cX8_cycles 26 = .ok (.iload 4, 2) := by decide +kernel
theorem dX8_cycles_28 : decode cX8_cycles 28 = .ok (.ishr, 1) := by decide +kernel
theorem dX8_cycles_29 : decode cX8_cycles 29 = .ok (.iconst 1, 1) := by decide +kernel
theorem dX8_cycles_30 : decode cX8_cycles 30 = .ok (.iand, 1) := by decide +kernel
theorem dX8_cycles_31 : decode cX8_cycles 31 = .ok (.ifCond .ne 22, 3) := by decide +kernel
theorem dX8_cycles_34 : decode cX8_cycles 34 = .ok (.iload_n 2, 1) := by decide +kernel
theorem dX8_cycles_35 : decode cX8_cycles 35 = .ok (.iconst 1, 1) := by decide +kernel
theorem dX8_cycles_36 : decode cX8_cycles 36 = .ok (.iload 4, 2) := by decide +kernel
theorem dX8_cycles_38 : decode cX8_cycles 38 = .ok (.ishl, 1) := by decide +kernel
theorem dX8_cycles_39 : decode cX8_cycles 39 = .ok (.ior, 1) := by decide +kernel
theorem dX8_cycles_40 : decode cX8_cycles 40 = .ok (.istore_n 2, 1) := by decide +kernel
theorem dX8_cycles_41 : decode cX8_cycles 41 = .ok (.aload_n 0, 1) := by decide +kernel
theorem dX8_cycles_42 : decode cX8_cycles 42 = .ok (.getfield 34, 3) := by decide +kernel
theorem dX8_cycles_45 : decode cX8_cycles 45 = .ok (.iload 4, 2) := by decide +kernel
theorem dX8_cycles_47 : decode cX8_cycles 47 = .ok (.iaload, 1) := by decide +kernel
theorem dX8_cycles_48 : decode cX8_cycles 48 = .ok (.istore 4, 2) := by decide +kernel
theorem dX8_cycles_50 : decode cX8_cycles 50 = .ok (.goto (-25), 3) := by decide +kernel
theorem dX8_cycles_53 : decode cX8_cycles 53 = .ok (.iinc 3 1, 3) := by decide +kernel
theorem dX8_cycles_56 : decode cX8_cycles 56 = .ok (.goto (-50), 3) := by decide +kernel
theorem dX8_cycles_59 : decode cX8_cycles 59 = .ok (.iload_n 1, 1) := by decide +kernel
theorem dX8_cycles_60 : decode cX8_cycles 60 = .ok (.ireturn, 1) := by decide +kernel
theorem dX8_cutsUntil_0 : decode cX8_cutsUntil 0 = .ok (.iconst 0, 1) := by decide +kernel
theorem dX8_cutsUntil_1 : decode cX8_cutsUntil 1 = .ok (.istore_n 2, 1) := by decide +kernel
theorem dX8_cutsUntil_2 : decode cX8_cutsUntil 2 = .ok (.iconst 0, 1) := by decide +kernel
theorem dX8_cutsUntil_3 : decode cX8_cutsUntil 3 = .ok (.istore_n 3, 1) := by decide +kernel
theorem dX8_cutsUntil_4 : decode cX8_cutsUntil 4 = .ok (.iload_n 3, 1) := by decide +kernel
theorem dX8_cutsUntil_5 : decode cX8_cutsUntil 5 = .ok (.iload_n 1, 1) := by decide +kernel
theorem dX8_cutsUntil_6 : decode cX8_cutsUntil 6 = .ok (.if_icmp .ge 40, 3) := by decide +kernel
theorem dX8_cutsUntil_9 : decode cX8_cutsUntil 9 = .ok (.iload_n 2, 1) := by decide +kernel
theorem dX8_cutsUntil_10 : decode cX8_cutsUntil 10 = .ok (.aload_n 0, 1) := by decide +kernel
theorem dX8_cutsUntil_11 : decode cX8_cutsUntil 11 = .ok (.getfield 25, 3) := by decide +kernel
theorem dX8_cutsUntil_14 : decode cX8_cutsUntil 14 = .ok (.iload_n 3, 1) := by decide +kernel
theorem dX8_cutsUntil_15 : decode cX8_cutsUntil 15 = .ok (.iaload, 1) := by decide +kernel
theorem dX8_cutsUntil_16 : decode cX8_cutsUntil 16 = .ok (.aload_n 0, 1) := by decide +kernel
theorem dX8_cutsUntil_17 : decode cX8_cutsUntil 17 = .ok (.getfield 25, 3) := by decide +kernel
theorem dX8_cutsUntil_20 : decode cX8_cutsUntil 20 = .ok (.bipush 8, 2) := by decide +kernel
theorem dX8_cutsUntil_22 : decode cX8_cutsUntil 22 = .ok (.aload_n 0, 1) := by decide +kernel
theorem dX8_cutsUntil_23 : decode cX8_cutsUntil 23 = .ok (.getfield 34, 3) := by decide +kernel
theorem dX8_cutsUntil_26 : decode cX8_cutsUntil 26 = .ok (.iload_n 3, 1) := by decide +kernel
theorem dX8_cutsUntil_27 : decode cX8_cutsUntil 27 = .ok (.iaload, 1) := by decide +kernel
theorem dX8_cutsUntil_28 : decode cX8_cutsUntil 28 = .ok (.iadd, 1) := by decide +kernel
theorem dX8_cutsUntil_29 : decode cX8_cutsUntil 29 = .ok (.iaload, 1) := by decide +kernel
theorem dX8_cutsUntil_30 : decode cX8_cutsUntil 30 = .ok (.if_icmp .ne 7, 3) := by decide +kernel
theorem dX8_cutsUntil_33 : decode cX8_cutsUntil 33 = .ok (.iconst 0, 1) := by decide +kernel
theorem dX8_cutsUntil_34 : decode cX8_cutsUntil 34 = .ok (.goto 4, 3) := by decide +kernel
theorem dX8_cutsUntil_37 : decode cX8_cutsUntil 37 = .ok (.iconst 1, 1) := by decide +kernel
theorem dX8_cutsUntil_38 : decode cX8_cutsUntil 38 = .ok (.iadd, 1) := by decide +kernel
theorem dX8_cutsUntil_39 : decode cX8_cutsUntil 39 = .ok (.istore_n 2, 1) := by decide +kernel
theorem dX8_cutsUntil_40 : decode cX8_cutsUntil 40 = .ok (.iinc 3 1, 3) := by decide +kernel
theorem dX8_cutsUntil_43 : decode cX8_cutsUntil 43 = .ok (.goto (-39), 3) := by decide +kernel
theorem dX8_cutsUntil_46 : decode cX8_cutsUntil 46 = .ok (.iload_n 2, 1) := by decide +kernel
theorem dX8_cutsUntil_47 : decode cX8_cutsUntil 47 = .ok (.ireturn, 1) := by decide +kernel
set_option maxRecDepth 20000 in
theorem ggX8_arrive_X8_cutsUntil : GoodIn wsX8_arrive wsX8_cutsUntil := goodIn_r _ [9, 10, 4, 15, 16, 17, 18, 19, 20, 21, 22, 23, 24, 25, 26, 27, 28, 29, 30, 31, 32, 33, 34, 35, 36, 37, 38, 39, 40, 41, 42, 43] (by decide +kernel) (by decide +kernel)
set_option maxRecDepth 20000 in
theorem gX8_arrive_X8_cutsUntil : GoodIn wsX8_arrive (wsV RX8 228 RX8 yX8_cutsUntil wsX8_cutsUntil) := goodIn_app (goodIn_of _ (by decide +kernel)) ggX8_arrive_X8_cutsUntil
set_option maxRecDepth 20000 in
theorem ggX8_arrive_X8_cycles : GoodIn wsX8_arrive wsX8_cycles := goodIn_r _ [14, 4, 15, 16, 17, 18, 19, 20, 21, 22, 23, 24, 25, 26, 27, 28, 29, 30, 31, 32, 33, 34, 35, 36, 37, 38, 39, 40, 41, 42, 43] (by decide +kernel) (by decide +kernel)
set_option maxRecDepth 20000 in
theorem gX8_arrive_X8_cycles : GoodIn wsX8_arrive (wsV RX8 231 RX8 yX8_cycles wsX8_cycles) := goodIn_app (goodIn_of _ (by decide +kernel)) ggX8_arrive_X8_cycles
theorem dX8_arrive_0 : decode cX8_arrive 0 = .ok (.aload_n 0, 1) := by decide +kernel
theorem dX8_arrive_1 : decode cX8_arrive 1 = .ok (.bipush 8, 2) := by decide +kernel
theorem dX8_arrive_3 : decode cX8_arrive 3 = .ok (.invokevirtual 228, 3) := by decide +kernel
theorem dX8_arrive_6 : decode cX8_arrive 6 = .ok (.istore_n 1, 1) := by decide +kernel
theorem dX8_arrive_7 : decode cX8_arrive 7 = .ok (.bipush 8, 2) := by decide +kernel
theorem dX8_arrive_9 : decode cX8_arrive 9 = .ok (.aload_n 0, 1) := by decide +kernel
theorem dX8_arrive_10 : decode cX8_arrive 10 = .ok (.invokevirtual 231, 3) := by decide +kernel
theorem dX8_arrive_13 : decode cX8_arrive 13 = .ok (.isub, 1) := by decide +kernel
theorem dX8_arrive_14 : decode cX8_arrive 14 = .ok (.istore_n 2, 1) := by decide +kernel
theorem dX8_arrive_15 : decode cX8_arrive 15 = .ok (.iload_n 1, 1) := by decide +kernel
theorem dX8_arrive_16 : decode cX8_arrive 16 = .ok (.aload_n 0, 1) := by decide +kernel
theorem dX8_arrive_17 : decode cX8_arrive 17 = .ok (.getfield 234, 3) := by decide +kernel
theorem dX8_arrive_20 : decode cX8_arrive 20 = .ok (.if_icmp .lt 19, 3) := by decide +kernel
theorem dX8_arrive_23 : decode cX8_arrive 23 = .ok (.iload_n 1, 1) := by decide +kernel
theorem dX8_arrive_24 : decode cX8_arrive 24 = .ok (.aload_n 0, 1) := by decide +kernel
theorem dX8_arrive_25 : decode cX8_arrive 25 = .ok (.getfield 234, 3) := by decide +kernel
theorem dX8_arrive_28 : decode cX8_arrive 28 = .ok (.if_icmp .ne 47, 3) := by decide +kernel
theorem dX8_arrive_31 : decode cX8_arrive 31 = .ok (.iload_n 2, 1) := by decide +kernel
theorem dX8_arrive_32 : decode cX8_arrive 32 = .ok (.aload_n 0, 1) := by decide +kernel
theorem dX8_arrive_33 : decode cX8_arrive 33 = .ok (.getfield 237, 3) := by decide +kernel
theorem dX8_arrive_36 : decode cX8_arrive 36 = .ok (.if_icmp .ge 39, 3) := by decide +kernel
theorem dX8_arrive_39 : decode cX8_arrive 39 = .ok (.aload_n 0, 1) := by decide +kernel
theorem dX8_arrive_40 : decode cX8_arrive 40 = .ok (.iload_n 1, 1) := by decide +kernel
theorem dX8_arrive_41 : decode cX8_arrive 41 = .ok (.putfield 234, 3) := by decide +kernel
theorem dX8_arrive_44 : decode cX8_arrive 44 = .ok (.aload_n 0, 1) := by decide +kernel
theorem dX8_arrive_45 : decode cX8_arrive 45 = .ok (.iload_n 2, 1) := by decide +kernel
theorem dX8_arrive_46 : decode cX8_arrive 46 = .ok (.putfield 237, 3) := by decide +kernel
theorem dX8_arrive_49 : decode cX8_arrive 49 = .ok (.iconst 0, 1) := by decide +kernel
theorem dX8_arrive_50 : decode cX8_arrive 50 = .ok (.istore_n 3, 1) := by decide +kernel
theorem dX8_arrive_51 : decode cX8_arrive 51 = .ok (.iload_n 3, 1) := by decide +kernel
theorem dX8_arrive_52 : decode cX8_arrive 52 = .ok (.bipush 8, 2) := by decide +kernel
theorem dX8_arrive_54 : decode cX8_arrive 54 = .ok (.if_icmp .ge 21, 3) := by decide +kernel
theorem dX8_arrive_57 : decode cX8_arrive 57 = .ok (.aload_n 0, 1) := by decide +kernel
theorem dX8_arrive_58 : decode cX8_arrive 58 = .ok (.getfield 31, 3) := by decide +kernel
theorem dX8_arrive_61 : decode cX8_arrive 61 = .ok (.iload_n 3, 1) := by decide +kernel
theorem dX8_arrive_62 : decode cX8_arrive 62 = .ok (.aload_n 0, 1) := by decide +kernel
theorem dX8_arrive_63 : decode cX8_arrive 63 = .ok (.getfield 34, 3) := by decide +kernel
theorem dX8_arrive_66 : decode cX8_arrive 66 = .ok (.iload_n 3, 1) := by decide +kernel
theorem dX8_arrive_67 : decode cX8_arrive 67 = .ok (.iaload, 1) := by decide +kernel
theorem dX8_arrive_68 : decode cX8_arrive 68 = .ok (.iastore, 1) := by decide +kernel
theorem dX8_arrive_69 : decode cX8_arrive 69 = .ok (.iinc 3 1, 3) := by decide +kernel
theorem dX8_arrive_72 : decode cX8_arrive 72 = .ok (.goto (-21), 3) := by decide +kernel
theorem dX8_arrive_75 : decode cX8_arrive 75 = .ok (.return_, 1) := by decide +kernel
set_option maxRecDepth 20000 in
theorem ggX8_findBest_X8_layNets : GoodIn wsX8_findBest wsX8_layNets := goodIn_r _ [10, 11, 12, 13, 14, 15, 16, 9, 17, 18, 19, 20, 21, 22, 23, 24, 25, 26, 27, 28, 29, 30, 31, 32, 33, 34, 35, 36, 50, 51, 52, 53, 54, 55, 56, 57, 58, 59, 60, 61, 62, 63, 64, 65, 66, 67, 68, 69, 70, 71, 72, 73, 74, 75, 76, 77, 78] (by decide +kernel) (by decide +kernel)
set_option maxRecDepth 20000 in
theorem gX8_findBest_X8_layNets : GoodIn wsX8_findBest (wsV RX8 96 RX8 yX8_layNets wsX8_layNets) := goodIn_app (goodIn_of _ (by decide +kernel)) ggX8_findBest_X8_layNets
set_option maxRecDepth 20000 in
theorem ggX8_findBest_X8_arrive : GoodIn wsX8_findBest wsX8_arrive := goodIn_r _ [40, 2, 3, 41, 5, 42, 43, 44, 9, 45, 11, 46, 47, 48, 49, 50, 51, 52, 53, 54, 55, 56, 57, 58, 59, 60, 61, 62, 63, 64, 65, 66, 67, 68, 69, 70, 71, 72, 73, 74, 75, 76, 77, 78] (by decide +kernel) (by decide +kernel)
set_option maxRecDepth 20000 in
theorem gX8_findBest_X8_arrive : GoodIn wsX8_findBest (wsV RX8 240 RX8 yX8_arrive wsX8_arrive) := goodIn_app (goodIn_of _ (by decide +kernel)) ggX8_findBest_X8_arrive
set_option maxRecDepth 20000 in
theorem ggX8_findBest_X8_cutsUntil : GoodIn wsX8_findBest wsX8_cutsUntil := goodIn_r _ [45, 11, 5, 50, 51, 52, 53, 54, 55, 56, 57, 58, 59, 60, 61, 62, 63, 64, 65, 66, 67, 68, 69, 70, 71, 72, 73, 74, 75, 76, 77, 78] (by decide +kernel) (by decide +kernel)
set_option maxRecDepth 20000 in
theorem gX8_findBest_X8_cutsUntil : GoodIn wsX8_findBest (wsV RX8 228 RX8 yX8_cutsUntil wsX8_cutsUntil) := goodIn_app (goodIn_of _ (by decide +kernel)) ggX8_findBest_X8_cutsUntil
theorem dX8_findBest_0 : decode cX8_findBest 0 = .ok (.aload_n 0, 1) := by decide +kernel
theorem dX8_findBest_1 : decode cX8_findBest 1 = .ok (.aload_n 0, 1) := by decide +kernel
theorem dX8_findBest_2 : decode cX8_findBest 2 = .ok (.getfield 61, 3) := by decide +kernel
theorem dX8_findBest_5 : decode cX8_findBest 5 = .ok (.invokevirtual 96, 3) := by decide +kernel
theorem dX8_findBest_8 : decode cX8_findBest 8 = .ok (.aload_n 0, 1) := by decide +kernel
theorem dX8_findBest_9 : decode cX8_findBest 9 = .ok (.bipush 9, 2) := by decide +kernel
theorem dX8_findBest_11 : decode cX8_findBest 11 = .ok (.putfield 234, 3) := by decide +kernel
theorem dX8_findBest_14 : decode cX8_findBest 14 = .ok (.aload_n 0, 1) := by decide +kernel
theorem dX8_findBest_15 : decode cX8_findBest 15 = .ok (.bipush 9, 2) := by decide +kernel
theorem dX8_findBest_17 : decode cX8_findBest 17 = .ok (.putfield 237, 3) := by decide +kernel
theorem dX8_findBest_20 : decode cX8_findBest 20 = .ok (.iconst 0, 1) := by decide +kernel
theorem dX8_findBest_21 : decode cX8_findBest 21 = .ok (.istore_n 1, 1) := by decide +kernel
theorem dX8_findBest_22 : decode cX8_findBest 22 = .ok (.iconst 0, 1) := by decide +kernel
theorem dX8_findBest_23 : decode cX8_findBest 23 = .ok (.istore_n 2, 1) := by decide +kernel
theorem dX8_findBest_24 : decode cX8_findBest 24 = .ok (.aload_n 0, 1) := by decide +kernel
theorem dX8_findBest_25 : decode cX8_findBest 25 = .ok (.getfield 37, 3) := by decide +kernel
theorem dX8_findBest_28 : decode cX8_findBest 28 = .ok (.iconst 0, 1) := by decide +kernel
theorem dX8_findBest_29 : decode cX8_findBest 29 = .ok (.iconst 0, 1) := by decide +kernel
theorem dX8_findBest_30 : decode cX8_findBest 30 = .ok (.iastore, 1) := by decide +kernel
theorem dX8_findBest_31 : decode cX8_findBest 31 = .ok (.iload_n 2, 1) := by decide +kernel
theorem dX8_findBest_32 : decode cX8_findBest 32 = .ok (.ifCond .lt 132, 3) := by decide +kernel
theorem dX8_findBest_35 : decode cX8_findBest 35 = .ok (.iload_n 2, 1) := by decide +kernel
theorem dX8_findBest_36 : decode cX8_findBest 36 = .ok (.bipush 8, 2) := by decide +kernel
theorem dX8_findBest_38 : decode cX8_findBest 38 = .ok (.if_icmp .ge 12, 3) := by decide +kernel
theorem dX8_findBest_41 : decode cX8_findBest 41 = .ok (.aload_n 0, 1) := by decide +kernel
theorem dX8_findBest_42 : decode cX8_findBest 42 = .ok (.getfield 37, 3) := by decide +kernel
theorem dX8_findBest_45 : decode cX8_findBest 45 = .ok (.iload_n 2, 1) := by decide +kernel
theorem dX8_findBest_46 : decode cX8_findBest 46 = .ok (.iaload, 1) := by decide +kernel
theorem dX8_findBest_47 : decode cX8_findBest 47 = .ok (.goto 5, 3) := by decide +kernel
theorem dX8_findBest_50 : decode cX8_findBest 50 = .ok (.bipush 8, 2) := by decide +kernel
theorem dX8_findBest_52 : decode cX8_findBest 52 = .ok (.istore_n 3, 1) := by decide +kernel
theorem dX8_findBest_53 : decode cX8_findBest 53 = .ok (.iload_n 3, 1) := by decide +kernel
theorem dX8_findBest_54 : decode cX8_findBest 54 = .ok (.bipush 8, 2) := by decide +kernel
theorem dX8_findBest_56 : decode cX8_findBest 56 = .ok (.if_icmp .ge 18, 3) := by decide +kernel
theorem dX8_findBest_59 : decode cX8_findBest 59 = .ok (.iload_n 1, 1) := by decide +kernel
theorem dX8_findBest_60 : decode cX8_findBest 60 = .ok (.iload_n 3, 1) := by decide +kernel
theorem dX8_findBest_61 : decode cX8_findBest 61 = .ok (.ishr, 1) := by decide +kernel
theorem dX8_findBest_62 : decode cX8_findBest 62 = .ok (.iconst 1, 1) := by decide +kernel
theorem dX8_findBest_63 : decode cX8_findBest 63 = .ok (.iand, 1) := by decide +kernel
theorem dX8_findBest_64 : decode cX8_findBest 64 = .ok (.iconst 1, 1) := by decide +kernel
theorem dX8_findBest_65 : decode cX8_findBest 65 = .ok (.if_icmp .ne 9, 3) := by decide +kernel
theorem dX8_findBest_68 : decode cX8_findBest 68 = .ok (.iinc 3 1, 3) := by decide +kernel
theorem dX8_findBest_71 : decode cX8_findBest 71 = .ok (.goto (-18), 3) := by decide +kernel
theorem dX8_findBest_74 : decode cX8_findBest 74 = .ok (.iload_n 2, 1) := by decide +kernel
theorem dX8_findBest_75 : decode cX8_findBest 75 = .ok (.bipush 8, 2) := by decide +kernel
theorem dX8_findBest_77 : decode cX8_findBest 77 = .ok (.if_icmp .ne 7, 3) := by decide +kernel
theorem dX8_findBest_80 : decode cX8_findBest 80 = .ok (.aload_n 0, 1) := by decide +kernel
theorem dX8_findBest_81 : decode cX8_findBest 81 = .ok (.invokevirtual 240, 3) := by decide +kernel
theorem dX8_findBest_84 : decode cX8_findBest 84 = .ok (.iload_n 3, 1) := by decide +kernel
theorem dX8_findBest_85 : decode cX8_findBest 85 = .ok (.bipush 8, 2) := by decide +kernel
theorem dX8_findBest_87 : decode cX8_findBest 87 = .ok (.if_icmp .eq 15, 3) := by decide +kernel
theorem dX8_findBest_90 : decode cX8_findBest 90 = .ok (.aload_n 0, 1) := by decide +kernel
theorem dX8_findBest_91 : decode cX8_findBest 91 = .ok (.iload_n 2, 1) := by decide +kernel
theorem dX8_findBest_92 : decode cX8_findBest 92 = .ok (.invokevirtual 228, 3) := by decide +kernel
theorem dX8_findBest_95 : decode cX8_findBest 95 = .ok (.aload_n 0, 1) := by decide +kernel
theorem dX8_findBest_96 : decode cX8_findBest 96 = .ok (.getfield 234, 3) := by decide +kernel
theorem dX8_findBest_99 : decode cX8_findBest 99 = .ok (.if_icmp .le 30, 3) := by decide +kernel
theorem dX8_findBest_102 : decode cX8_findBest 102 = .ok (.iinc 2 (-1), 3) := by decide +kernel
theorem dX8_findBest_105 : decode cX8_findBest 105 = .ok (.iload_n 1, 1) := by decide +kernel
theorem dX8_findBest_106 : decode cX8_findBest 106 = .ok (.iload_n 2, 1) := by decide +kernel
theorem dX8_findBest_107 : decode cX8_findBest 107 = .ok (.ifCond .lt 16, 3) := by decide +kernel
theorem dX8_findBest_110 : decode cX8_findBest 110 = .ok (.iconst 1, 1) := by decide +kernel
theorem dX8_findBest_111 : decode cX8_findBest 111 = .ok (.aload_n 0, 1) := by decide +kernel
theorem dX8_findBest_112 : decode cX8_findBest 112 = .ok (.getfield 34, 3) := by decide +kernel
theorem dX8_findBest_115 : decode cX8_findBest 115 = .ok (.iload_n 2, 1) := by decide +kernel
theorem dX8_findBest_116 : decode cX8_findBest 116 = .ok (.iaload, 1) := by decide +kernel
theorem dX8_findBest_117 : decode cX8_findBest 117 = .ok (.ishl, 1) := by decide +kernel
theorem dX8_findBest_118 : decode cX8_findBest 118 = .ok (.iconst (-1), 1) := by decide +kernel
theorem dX8_findBest_119 : decode cX8_findBest 119 = .ok (.ixor, 1) := by decide +kernel
theorem dX8_findBest_120 : decode cX8_findBest 120 = .ok (.goto 4, 3) := by decide +kernel
theorem dX8_findBest_123 : decode cX8_findBest 123 = .ok (.iconst (-1), 1) := by decide +kernel
theorem dX8_findBest_124 : decode cX8_findBest 124 = .ok (.iand, 1) := by decide +kernel
theorem dX8_findBest_125 : decode cX8_findBest 125 = .ok (.istore_n 1, 1) := by decide +kernel
theorem dX8_findBest_126 : decode cX8_findBest 126 = .ok (.goto 35, 3) := by decide +kernel
theorem dX8_findBest_129 : decode cX8_findBest 129 = .ok (.aload_n 0, 1) := by decide +kernel
theorem dX8_findBest_130 : decode cX8_findBest 130 = .ok (.getfield 37, 3) := by decide +kernel
theorem dX8_findBest_133 : decode cX8_findBest 133 = .ok (.iload_n 2, 1) := by decide +kernel
theorem dX8_findBest_134 : decode cX8_findBest 134 = .ok (.iload_n 3, 1) := by decide +kernel
theorem dX8_findBest_135 : decode cX8_findBest 135 = .ok (.iconst 1, 1) := by decide +kernel
theorem dX8_findBest_136 : decode cX8_findBest 136 = .ok (.iadd, 1) := by decide +kernel
theorem dX8_findBest_137 : decode cX8_findBest 137 = .ok (.iastore, 1) := by decide +kernel
theorem dX8_findBest_138 : decode cX8_findBest 138 = .ok (.aload_n 0, 1) := by decide +kernel
theorem dX8_findBest_139 : decode cX8_findBest 139 = .ok (.getfield 34, 3) := by decide +kernel
theorem dX8_findBest_142 : decode cX8_findBest 142 = .ok (.iload_n 2, 1) := by decide +kernel
theorem dX8_findBest_143 : decode cX8_findBest 143 = .ok (.iload_n 3, 1) := by decide +kernel
theorem dX8_findBest_144 : decode cX8_findBest 144 = .ok (.iastore, 1) := by decide +kernel
theorem dX8_findBest_145 : decode cX8_findBest 145 = .ok (.iload_n 1, 1) := by decide +kernel
theorem dX8_findBest_146 : decode cX8_findBest 146 = .ok (.iconst 1, 1) := by decide +kernel
theorem dX8_findBest_147 : decode cX8_findBest 147 = .ok (.iload_n 3, 1) := by decide +kernel
theorem dX8_findBest_148 : decode cX8_findBest 148 = .ok (.ishl, 1) := by decide +kernel
theorem dX8_findBest_149 : decode cX8_findBest 149 = .ok (.ior, 1) := by decide +kernel
theorem dX8_findBest_150 : decode cX8_findBest 150 = .ok (.istore_n 1, 1) := by decide +kernel
theorem dX8_findBest_151 : decode cX8_findBest 151 = .ok (.iinc 2 1, 3) := by decide +kernel
theorem dX8_findBest_154 : decode cX8_findBest 154 = .ok (.aload_n 0, 1) := by decide +kernel
theorem dX8_findBest_155 : decode cX8_findBest 155 = .ok (.getfield 37, 3) := by decide +kernel
theorem dX8_findBest_158 : decode cX8_findBest 158 = .ok (.iload_n 2, 1) := by decide +kernel
theorem dX8_findBest_159 : decode cX8_findBest 159 = .ok (.iconst 0, 1) := by decide +kernel
theorem dX8_findBest_160 : decode cX8_findBest 160 = .ok (.iastore, 1) := by decide +kernel
theorem dX8_findBest_161 : decode cX8_findBest 161 = .ok (.goto (-130), 3) := by decide +kernel
theorem dX8_findBest_164 : decode cX8_findBest 164 = .ok (.return_, 1) := by decide +kernel
set_option maxRecDepth 20000 in
theorem ggX8_netShorts_X8_same : GoodIn wsX8_netShorts wsX8_same := goodIn_r _ [6, 1, 10, 11, 12, 13, 14, 15, 16, 17, 18, 19, 20, 21, 22, 23, 24, 25, 26, 27, 28, 29, 30, 31, 32, 33, 34, 35, 36, 37, 38] (by decide +kernel) (by decide +kernel)
set_option maxRecDepth 20000 in
theorem gX8_netShorts_X8_same : GoodIn wsX8_netShorts (wsV RX8 90 RX8 yX8_same wsX8_same) := goodIn_app (goodIn_of _ (by decide +kernel)) ggX8_netShorts_X8_same
set_option maxRecDepth 20000 in
theorem ggX8_netShorts_X8_bits : GoodIn wsX8_netShorts wsX8_bits := goodIn_r _ [9] (by decide +kernel) (by decide +kernel)
set_option maxRecDepth 20000 in
theorem gX8_netShorts_X8_bits : GoodIn wsX8_netShorts (va_wsS RX8 93 yX8_bits wsX8_bits) := goodIn_app (goodIn_of _ (by decide +kernel)) ggX8_netShorts_X8_bits
theorem dX8_netShorts_0 : decode cX8_netShorts 0 = .ok (.iconst 0, 1) := by decide +kernel
theorem dX8_netShorts_1 : decode cX8_netShorts 1 = .ok (.istore_n 1, 1) := by decide +kernel
theorem dX8_netShorts_2 : decode cX8_netShorts 2 = .ok (.iconst 0, 1) := by decide +kernel
theorem dX8_netShorts_3 : decode cX8_netShorts 3 = .ok (.istore_n 2, 1) := by decide +kernel
theorem dX8_netShorts_4 : decode cX8_netShorts 4 = .ok (.iload_n 2, 1) := by decide +kernel
theorem dX8_netShorts_5 : decode cX8_netShorts 5 = .ok (.bipush 16, 2) := by decide +kernel
theorem dX8_netShorts_7 : decode cX8_netShorts 7 = .ok (.if_icmp .ge 101, 3) := by decide +kernel
theorem dX8_netShorts_10 : decode cX8_netShorts 10 = .ok (.iconst 1, 1) := by decide +kernel
theorem dX8_netShorts_11 : decode cX8_netShorts 11 = .ok (.istore_n 3, 1) := by decide +kernel
theorem dX8_netShorts_12 : decode cX8_netShorts 12 = .ok (.iconst 0, 1) := by decide +kernel
theorem dX8_netShorts_13 : decode cX8_netShorts 13 = .ok (.istore 4, 2) := by decide +kernel
theorem dX8_netShorts_15 : decode cX8_netShorts 15 = .ok (.iload 4, 2) := by decide +kernel
theorem dX8_netShorts_17 : decode cX8_netShorts 17 = .ok (.iload_n 2, 1) := by decide +kernel
theorem dX8_netShorts_18 : decode cX8_netShorts 18 = .ok (.if_icmp .ge 35, 3) := by decide +kernel
theorem dX8_netShorts_21 : decode cX8_netShorts 21 = .ok (.iload_n 3, 1) := by decide +kernel
theorem dX8_netShorts_22 : decode cX8_netShorts 22 = .ok (.ifCond .eq 23, 3) := by decide +kernel
theorem dX8_netShorts_25 : decode cX8_netShorts 25 = .ok (.aload_n 0, 1) := by decide +kernel
theorem dX8_netShorts_26 : decode cX8_netShorts 26 = .ok (.getfield 25, 3) := by decide +kernel
theorem dX8_netShorts_29 : decode cX8_netShorts 29 = .ok (.iload 4, 2) := by decide +kernel
theorem dX8_netShorts_31 : decode cX8_netShorts 31 = .ok (.iaload, 1) := by decide +kernel
theorem dX8_netShorts_32 : decode cX8_netShorts 32 = .ok (.aload_n 0, 1) := by decide +kernel
theorem dX8_netShorts_33 : decode cX8_netShorts 33 = .ok (.getfield 25, 3) := by decide +kernel
theorem dX8_netShorts_36 : decode cX8_netShorts 36 = .ok (.iload_n 2, 1) := by decide +kernel
theorem dX8_netShorts_37 : decode cX8_netShorts 37 = .ok (.iaload, 1) := by decide +kernel
theorem dX8_netShorts_38 : decode cX8_netShorts 38 = .ok (.if_icmp .eq 7, 3) := by decide +kernel
theorem dX8_netShorts_41 : decode cX8_netShorts 41 = .ok (.iconst 1, 1) := by decide +kernel
theorem dX8_netShorts_42 : decode cX8_netShorts 42 = .ok (.goto 4, 3) := by decide +kernel
theorem dX8_netShorts_45 : decode cX8_netShorts 45 = .ok (.iconst 0, 1) := by decide +kernel
theorem dX8_netShorts_46 : decode cX8_netShorts 46 = .ok (.istore_n 3, 1) := by decide +kernel
theorem dX8_netShorts_47 : decode cX8_netShorts 47 = .ok (.iinc 4 1, 3) := by decide +kernel
theorem dX8_netShorts_50 : decode cX8_netShorts 50 = .ok (.goto (-35), 3) := by decide +kernel
theorem dX8_netShorts_53 : decode cX8_netShorts 53 = .ok (.aload_n 0, 1) := by decide +kernel
theorem dX8_netShorts_54 : decode cX8_netShorts 54 = .ok (.iload_n 2, 1) := by decide +kernel
theorem dX8_netShorts_55 : decode cX8_netShorts 55 = .ok (.iconst 0, 1) := by decide +kernel
theorem dX8_netShorts_56 : decode cX8_netShorts 56 = .ok (.invokevirtual 90, 3) := by decide +kernel
theorem dX8_netShorts_59 : decode cX8_netShorts 59 = .ok (.invokestatic 93, 3) := by decide +kernel
theorem dX8_netShorts_62 : decode cX8_netShorts 62 = .ok (.istore 4, 2) := by decide +kernel
theorem dX8_netShorts_64 : decode cX8_netShorts 64 = .ok (.aload_n 0, 1) := by decide +kernel
theorem dX8_netShorts_65 : decode cX8_netShorts 65 = .ok (.iload_n 2, 1) := by decide +kernel
theorem dX8_netShorts_66 : decode cX8_netShorts 66 = .ok (.iconst 1, 1) := by decide +kernel
theorem dX8_netShorts_67 : decode cX8_netShorts 67 = .ok (.invokevirtual 90, 3) := by decide +kernel
theorem dX8_netShorts_70 : decode cX8_netShorts 70 = .ok (.invokestatic 93, 3) := by decide +kernel
theorem dX8_netShorts_73 : decode cX8_netShorts 73 = .ok (.istore 5, 2) := by decide +kernel
theorem dX8_netShorts_75 : decode cX8_netShorts 75 = .ok (.iload_n 1, 1) := by decide +kernel
theorem dX8_netShorts_76 : decode cX8_netShorts 76 = .ok (.iload_n 3, 1) := by decide +kernel
theorem dX8_netShorts_77 : decode cX8_netShorts 77 = .ok (.ifCond .eq 22, 3) := by decide +kernel
theorem dX8_netShorts_80 : decode cX8_netShorts 80 = .ok (.iload 4, 2) := by decide +kernel
theorem dX8_netShorts_82 : decode cX8_netShorts 82 = .ok (.iload 5, 2) := by decide +kernel
theorem dX8_netShorts_84 : decode cX8_netShorts 84 = .ok (.if_icmp .le 8, 3) := by decide +kernel
theorem dX8_netShorts_87 : decode cX8_netShorts 87 = .ok (.iload 4, 2) := by decide +kernel
theorem dX8_netShorts_89 : decode cX8_netShorts 89 = .ok (.goto 5, 3) := by decide +kernel
theorem dX8_netShorts_92 : decode cX8_netShorts 92 = .ok (.iload 5, 2) := by decide +kernel
theorem dX8_netShorts_94 : decode cX8_netShorts 94 = .ok (.iconst 1, 1) := by decide +kernel
theorem dX8_netShorts_95 : decode cX8_netShorts 95 = .ok (.isub, 1) := by decide +kernel
theorem dX8_netShorts_96 : decode cX8_netShorts 96 = .ok (.goto 4, 3) := by decide +kernel
theorem dX8_netShorts_99 : decode cX8_netShorts 99 = .ok (.iconst 0, 1) := by decide +kernel
theorem dX8_netShorts_100 : decode cX8_netShorts 100 = .ok (.iadd, 1) := by decide +kernel
theorem dX8_netShorts_101 : decode cX8_netShorts 101 = .ok (.istore_n 1, 1) := by decide +kernel
theorem dX8_netShorts_102 : decode cX8_netShorts 102 = .ok (.iinc 2 1, 3) := by decide +kernel
theorem dX8_netShorts_105 : decode cX8_netShorts 105 = .ok (.goto (-101), 3) := by decide +kernel
theorem dX8_netShorts_108 : decode cX8_netShorts 108 = .ok (.iload_n 1, 1) := by decide +kernel
theorem dX8_netShorts_109 : decode cX8_netShorts 109 = .ok (.ireturn, 1) := by decide +kernel
set_option maxRecDepth 20000 in
theorem ggX8_splits_X8_talk : GoodIn wsX8_splits wsX8_talk := goodIn_r _ [5, 6, 7, 8, 9, 10, 11, 12, 13, 14, 15, 16, 17, 18, 19, 20, 21, 22, 23, 24, 25, 26, 27, 28, 29, 30, 31, 32, 33, 34, 35] (by decide +kernel) (by decide +kernel)
set_option maxRecDepth 20000 in
theorem gX8_splits_X8_talk : GoodIn wsX8_splits (wsV RX8 199 RX8 yX8_talk wsX8_talk) := goodIn_app (goodIn_of _ (by decide +kernel)) ggX8_splits_X8_talk
theorem dX8_splits_0 : decode cX8_splits 0 = .ok (.iconst 0, 1) := by decide +kernel
theorem dX8_splits_1 : decode cX8_splits 1 = .ok (.istore_n 1, 1) := by decide +kernel
theorem dX8_splits_2 : decode cX8_splits 2 = .ok (.iconst 0, 1) := by decide +kernel
theorem dX8_splits_3 : decode cX8_splits 3 = .ok (.istore_n 2, 1) := by decide +kernel
theorem dX8_splits_4 : decode cX8_splits 4 = .ok (.iload_n 2, 1) := by decide +kernel
theorem dX8_splits_5 : decode cX8_splits 5 = .ok (.iconst 4, 1) := by decide +kernel
theorem dX8_splits_6 : decode cX8_splits 6 = .ok (.if_icmp .ge 153, 3) := by decide +kernel
theorem dX8_splits_9 : decode cX8_splits 9 = .ok (.iconst 1, 1) := by decide +kernel
theorem dX8_splits_10 : decode cX8_splits 10 = .ok (.iload_n 2, 1) := by decide +kernel
theorem dX8_splits_11 : decode cX8_splits 11 = .ok (.ishl, 1) := by decide +kernel
theorem dX8_splits_12 : decode cX8_splits 12 = .ok (.istore_n 3, 1) := by decide +kernel
theorem dX8_splits_13 : decode cX8_splits 13 = .ok (.iconst 0, 1) := by decide +kernel
theorem dX8_splits_14 : decode cX8_splits 14 = .ok (.istore 4, 2) := by decide +kernel
theorem dX8_splits_16 : decode cX8_splits 16 = .ok (.iload 4, 2) := by decide +kernel
theorem dX8_splits_18 : decode cX8_splits 18 = .ok (.bipush 16, 2) := by decide +kernel
theorem dX8_splits_20 : decode cX8_splits 20 = .ok (.if_icmp .ge 53, 3) := by decide +kernel
theorem dX8_splits_23 : decode cX8_splits 23 = .ok (.iload 4, 2) := by decide +kernel
theorem dX8_splits_25 : decode cX8_splits 25 = .ok (.iconst 4, 1) := by decide +kernel
theorem dX8_splits_26 : decode cX8_splits 26 = .ok (.idiv, 1) := by decide +kernel
theorem dX8_splits_27 : decode cX8_splits 27 = .ok (.istore 5, 2) := by decide +kernel
theorem dX8_splits_29 : decode cX8_splits 29 = .ok (.iload 4, 2) := by decide +kernel
theorem dX8_splits_31 : decode cX8_splits 31 = .ok (.iconst 4, 1) := by decide +kernel
theorem dX8_splits_32 : decode cX8_splits 32 = .ok (.irem, 1) := by decide +kernel
theorem dX8_splits_33 : decode cX8_splits 33 = .ok (.istore 6, 2) := by decide +kernel
theorem dX8_splits_35 : decode cX8_splits 35 = .ok (.iload_n 3, 1) := by decide +kernel
theorem dX8_splits_36 : decode cX8_splits 36 = .ok (.iload_n 3, 1) := by decide +kernel
theorem dX8_splits_37 : decode cX8_splits 37 = .ok (.iload 5, 2) := by decide +kernel
theorem dX8_splits_39 : decode cX8_splits 39 = .ok (.ishr, 1) := by decide +kernel
theorem dX8_splits_40 : decode cX8_splits 40 = .ok (.iconst 1, 1) := by decide +kernel
theorem dX8_splits_41 : decode cX8_splits 41 = .ok (.iand, 1) := by decide +kernel
theorem dX8_splits_42 : decode cX8_splits 42 = .ok (.iconst 1, 1) := by decide +kernel
theorem dX8_splits_43 : decode cX8_splits 43 = .ok (.if_icmp .ne 21, 3) := by decide +kernel
theorem dX8_splits_46 : decode cX8_splits 46 = .ok (.aload_n 0, 1) := by decide +kernel
theorem dX8_splits_47 : decode cX8_splits 47 = .ok (.iload 5, 2) := by decide +kernel
theorem dX8_splits_49 : decode cX8_splits 49 = .ok (.iload 6, 2) := by decide +kernel
theorem dX8_splits_51 : decode cX8_splits 51 = .ok (.invokevirtual 199, 3) := by decide +kernel
theorem dX8_splits_54 : decode cX8_splits 54 = .ok (.ifCond .le 10, 3) := by decide +kernel
theorem dX8_splits_57 : decode cX8_splits 57 = .ok (.iconst 1, 1) := by decide +kernel
theorem dX8_splits_58 : decode cX8_splits 58 = .ok (.iload 6, 2) := by decide +kernel
theorem dX8_splits_60 : decode cX8_splits 60 = .ok (.ishl, 1) := by decide +kernel
theorem dX8_splits_61 : decode cX8_splits 61 = .ok (.goto 4, 3) := by decide +kernel
theorem dX8_splits_64 : decode cX8_splits 64 = .ok (.iconst 0, 1) := by decide +kernel
theorem dX8_splits_65 : decode cX8_splits 65 = .ok (.ior, 1) := by decide +kernel
theorem dX8_splits_66 : decode cX8_splits 66 = .ok (.istore_n 3, 1) := by decide +kernel
theorem dX8_splits_67 : decode cX8_splits 67 = .ok (.iinc 4 1, 3) := by decide +kernel
theorem dX8_splits_70 : decode cX8_splits 70 = .ok (.goto (-54), 3) := by decide +kernel
theorem dX8_splits_73 : decode cX8_splits 73 = .ok (.iconst 0, 1) := by decide +kernel
theorem dX8_splits_74 : decode cX8_splits 74 = .ok (.istore 4, 2) := by decide +kernel
theorem dX8_splits_76 : decode cX8_splits 76 = .ok (.iload 4, 2) := by decide +kernel
theorem dX8_splits_78 : decode cX8_splits 78 = .ok (.bipush 32, 2) := by decide +kernel
theorem dX8_splits_80 : decode cX8_splits 80 = .ok (.if_icmp .ge 55, 3) := by decide +kernel
theorem dX8_splits_83 : decode cX8_splits 83 = .ok (.iload 4, 2) := by decide +kernel
theorem dX8_splits_85 : decode cX8_splits 85 = .ok (.iconst 4, 1) := by decide +kernel
theorem dX8_splits_86 : decode cX8_splits 86 = .ok (.idiv, 1) := by decide +kernel
theorem dX8_splits_87 : decode cX8_splits 87 = .ok (.iconst 4, 1) := by decide +kernel
theorem dX8_splits_88 : decode cX8_splits 88 = .ok (.irem, 1) := by decide +kernel
theorem dX8_splits_89 : decode cX8_splits 89 = .ok (.istore 5, 2) := by decide +kernel
theorem dX8_splits_91 : decode cX8_splits 91 = .ok (.iload 4, 2) := by decide +kernel
theorem dX8_splits_93 : decode cX8_splits 93 = .ok (.iconst 4, 1) := by decide +kernel
theorem dX8_splits_94 : decode cX8_splits 94 = .ok (.irem, 1) := by decide +kernel
theorem dX8_splits_95 : decode cX8_splits 95 = .ok (.istore 6, 2) := by decide +kernel
theorem dX8_splits_97 : decode cX8_splits 97 = .ok (.iload_n 3, 1) := by decide +kernel
theorem dX8_splits_98 : decode cX8_splits 98 = .ok (.iload_n 3, 1) := by decide +kernel
theorem dX8_splits_99 : decode cX8_splits 99 = .ok (.iload 5, 2) := by decide +kernel
theorem dX8_splits_101 : decode cX8_splits 101 = .ok (.ishr, 1) := by decide +kernel
theorem dX8_splits_102 : decode cX8_splits 102 = .ok (.iconst 1, 1) := by decide +kernel
theorem dX8_splits_103 : decode cX8_splits 103 = .ok (.iand, 1) := by decide +kernel
theorem dX8_splits_104 : decode cX8_splits 104 = .ok (.iconst 1, 1) := by decide +kernel
theorem dX8_splits_105 : decode cX8_splits 105 = .ok (.if_icmp .ne 21, 3) := by decide +kernel
theorem dX8_splits_108 : decode cX8_splits 108 = .ok (.aload_n 0, 1) := by decide +kernel
theorem dX8_splits_109 : decode cX8_splits 109 = .ok (.iload 5, 2) := by decide +kernel
theorem dX8_splits_111 : decode cX8_splits 111 = .ok (.iload 6, 2) := by decide +kernel
theorem dX8_splits_113 : decode cX8_splits 113 = .ok (.invokevirtual 199, 3) := by decide +kernel
theorem dX8_splits_116 : decode cX8_splits 116 = .ok (.ifCond .le 10, 3) := by decide +kernel
theorem dX8_splits_119 : decode cX8_splits 119 = .ok (.iconst 1, 1) := by decide +kernel
theorem dX8_splits_120 : decode cX8_splits 120 = .ok (.iload 6, 2) := by decide +kernel
theorem dX8_splits_122 : decode cX8_splits 122 = .ok (.ishl, 1) := by decide +kernel
theorem dX8_splits_123 : decode cX8_splits 123 = .ok (.goto 4, 3) := by decide +kernel
theorem dX8_splits_126 : decode cX8_splits 126 = .ok (.iconst 0, 1) := by decide +kernel
