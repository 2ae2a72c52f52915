theorem dX8_exchange_59 : decode cX8_exchange 59 = .ok (.bipush 8, 2) := by decide +kernel
theorem dX8_exchange_61 : decode cX8_exchange 61 = .ok (.iload_n 1, 1) := by decide +kernel
theorem dX8_exchange_62 : decode cX8_exchange 62 = .ok (.imul, 1) := by decide +kernel
theorem dX8_exchange_63 : decode cX8_exchange 63 = .ok (.iload_n 2, 1) := by decide +kernel
theorem dX8_exchange_64 : decode cX8_exchange 64 = .ok (.iadd, 1) := by decide +kernel
theorem dX8_exchange_65 : decode cX8_exchange 65 = .ok (.iaload, 1) := by decide +kernel
theorem dX8_exchange_66 : decode cX8_exchange 66 = .ok (.ireturn, 1) := by decide +kernel
theorem dX8_add_0 : decode cX8_add 0 = .ok (.bipush 6, 2) := by decide +kernel
theorem dX8_add_2 : decode cX8_add 2 = .ok (.aload_n 0, 1) := by decide +kernel
theorem dX8_add_3 : decode cX8_add 3 = .ok (.getfield 64, 3) := by decide +kernel
theorem dX8_add_6 : decode cX8_add 6 = .ok (.imul, 1) := by decide +kernel
theorem dX8_add_7 : decode cX8_add 7 = .ok (.istore 7, 2) := by decide +kernel
theorem dX8_add_9 : decode cX8_add 9 = .ok (.aload_n 0, 1) := by decide +kernel
theorem dX8_add_10 : decode cX8_add 10 = .ok (.getfield 13, 3) := by decide +kernel
theorem dX8_add_13 : decode cX8_add 13 = .ok (.iload 7, 2) := by decide +kernel
theorem dX8_add_15 : decode cX8_add 15 = .ok (.iload_n 1, 1) := by decide +kernel
theorem dX8_add_16 : decode cX8_add 16 = .ok (.iastore, 1) := by decide +kernel
theorem dX8_add_17 : decode cX8_add 17 = .ok (.aload_n 0, 1) := by decide +kernel
theorem dX8_add_18 : decode cX8_add 18 = .ok (.getfield 13, 3) := by decide +kernel
theorem dX8_add_21 : decode cX8_add 21 = .ok (.iload 7, 2) := by decide +kernel
theorem dX8_add_23 : decode cX8_add 23 = .ok (.iconst 1, 1) := by decide +kernel
theorem dX8_add_24 : decode cX8_add 24 = .ok (.iadd, 1) := by decide +kernel
theorem dX8_add_25 : decode cX8_add 25 = .ok (.iload_n 2, 1) := by decide +kernel
theorem dX8_add_26 : decode cX8_add 26 = .ok (.iastore, 1) := by decide +kernel
theorem dX8_add_27 : decode cX8_add 27 = .ok (.aload_n 0, 1) := by decide +kernel
theorem dX8_add_28 : decode cX8_add 28 = .ok (.getfield 13, 3) := by decide +kernel
theorem dX8_add_31 : decode cX8_add 31 = .ok (.iload 7, 2) := by decide +kernel
theorem dX8_add_33 : decode cX8_add 33 = .ok (.iconst 2, 1) := by decide +kernel
theorem dX8_add_34 : decode cX8_add 34 = .ok (.iadd, 1) := by decide +kernel
theorem dX8_add_35 : decode cX8_add 35 = .ok (.iload_n 3, 1) := by decide +kernel
theorem dX8_add_36 : decode cX8_add 36 = .ok (.iastore, 1) := by decide +kernel
theorem dX8_add_37 : decode cX8_add 37 = .ok (.aload_n 0, 1) := by decide +kernel
theorem dX8_add_38 : decode cX8_add 38 = .ok (.getfield 13, 3) := by decide +kernel
theorem dX8_add_41 : decode cX8_add 41 = .ok (.iload 7, 2) := by decide +kernel
theorem dX8_add_43 : decode cX8_add 43 = .ok (.iconst 3, 1) := by decide +kernel
theorem dX8_add_44 : decode cX8_add 44 = .ok (.iadd, 1) := by decide +kernel
theorem dX8_add_45 : decode cX8_add 45 = .ok (.iload 4, 2) := by decide +kernel
theorem dX8_add_47 : decode cX8_add 47 = .ok (.iastore, 1) := by decide +kernel
theorem dX8_add_48 : decode cX8_add 48 = .ok (.aload_n 0, 1) := by decide +kernel
theorem dX8_add_49 : decode cX8_add 49 = .ok (.getfield 13, 3) := by decide +kernel
theorem dX8_add_52 : decode cX8_add 52 = .ok (.iload 7, 2) := by decide +kernel
theorem dX8_add_54 : decode cX8_add 54 = .ok (.iconst 4, 1) := by decide +kernel
theorem dX8_add_55 : decode cX8_add 55 = .ok (.iadd, 1) := by decide +kernel
theorem dX8_add_56 : decode cX8_add 56 = .ok (.iload 5, 2) := by decide +kernel
theorem dX8_add_58 : decode cX8_add 58 = .ok (.iastore, 1) := by decide +kernel
theorem dX8_add_59 : decode cX8_add 59 = .ok (.aload_n 0, 1) := by decide +kernel
theorem dX8_add_60 : decode cX8_add 60 = .ok (.getfield 13, 3) := by decide +kernel
theorem dX8_add_63 : decode cX8_add 63 = .ok (.iload 7, 2) := by decide +kernel
theorem dX8_add_65 : decode cX8_add 65 = .ok (.iconst 5, 1) := by decide +kernel
theorem dX8_add_66 : decode cX8_add 66 = .ok (.iadd, 1) := by decide +kernel
theorem dX8_add_67 : decode cX8_add 67 = .ok (.iload 6, 2) := by decide +kernel
theorem dX8_add_69 : decode cX8_add 69 = .ok (.iastore, 1) := by decide +kernel
theorem dX8_add_70 : decode cX8_add 70 = .ok (.aload_n 0, 1) := by decide +kernel
theorem dX8_add_71 : decode cX8_add 71 = .ok (.dup, 1) := by decide +kernel
theorem dX8_add_72 : decode cX8_add 72 = .ok (.getfield 64, 3) := by decide +kernel
theorem dX8_add_75 : decode cX8_add 75 = .ok (.iconst 1, 1) := by decide +kernel
theorem dX8_add_76 : decode cX8_add 76 = .ok (.iadd, 1) := by decide +kernel
theorem dX8_add_77 : decode cX8_add 77 = .ok (.putfield 64, 3) := by decide +kernel
theorem dX8_add_80 : decode cX8_add 80 = .ok (.aload_n 0, 1) := by decide +kernel
theorem dX8_add_81 : decode cX8_add 81 = .ok (.getfield 64, 3) := by decide +kernel
theorem dX8_add_84 : decode cX8_add 84 = .ok (.iconst 1, 1) := by decide +kernel
theorem dX8_add_85 : decode cX8_add 85 = .ok (.isub, 1) := by decide +kernel
theorem dX8_add_86 : decode cX8_add 86 = .ok (.ireturn, 1) := by decide +kernel
set_option maxRecDepth 20000 in
theorem ggX8_isTime_X8_within : GoodIn wsX8_isTime wsX8_within := goodIn_r _ [5] (by decide +kernel) (by decide +kernel)
set_option maxRecDepth 20000 in
theorem gX8_isTime_X8_within : GoodIn wsX8_isTime (va_wsS RX8 48 yX8_within wsX8_within) := goodIn_app (goodIn_of _ (by decide +kernel)) ggX8_isTime_X8_within
theorem dX8_isTime_0 : decode cX8_isTime 0 = .ok (.iload_n 1, 1) := by decide +kernel
theorem dX8_isTime_1 : decode cX8_isTime 1 = .ok (.iconst 1, 1) := by decide +kernel
theorem dX8_isTime_2 : decode cX8_isTime 2 = .ok (.aload_n 0, 1) := by decide +kernel
theorem dX8_isTime_3 : decode cX8_isTime 3 = .ok (.getfield 52, 3) := by decide +kernel
theorem dX8_isTime_6 : decode cX8_isTime 6 = .ok (.iconst 1, 1) := by decide +kernel
theorem dX8_isTime_7 : decode cX8_isTime 7 = .ok (.isub, 1) := by decide +kernel
theorem dX8_isTime_8 : decode cX8_isTime 8 = .ok (.invokestatic 48, 3) := by decide +kernel
theorem dX8_isTime_11 : decode cX8_isTime 11 = .ok (.ifCond .eq 26, 3) := by decide +kernel
theorem dX8_isTime_14 : decode cX8_isTime 14 = .ok (.iload_n 2, 1) := by decide +kernel
theorem dX8_isTime_15 : decode cX8_isTime 15 = .ok (.iconst 1, 1) := by decide +kernel
theorem dX8_isTime_16 : decode cX8_isTime 16 = .ok (.bipush 32, 2) := by decide +kernel
theorem dX8_isTime_18 : decode cX8_isTime 18 = .ok (.invokestatic 48, 3) := by decide +kernel
theorem dX8_isTime_21 : decode cX8_isTime 21 = .ok (.ifCond .eq 16, 3) := by decide +kernel
theorem dX8_isTime_24 : decode cX8_isTime 24 = .ok (.iload_n 3, 1) := by decide +kernel
theorem dX8_isTime_25 : decode cX8_isTime 25 = .ok (.iconst 1, 1) := by decide +kernel
theorem dX8_isTime_26 : decode cX8_isTime 26 = .ok (.iload_n 2, 1) := by decide +kernel
theorem dX8_isTime_27 : decode cX8_isTime 27 = .ok (.invokestatic 48, 3) := by decide +kernel
theorem dX8_isTime_30 : decode cX8_isTime 30 = .ok (.ifCond .eq 7, 3) := by decide +kernel
theorem dX8_isTime_33 : decode cX8_isTime 33 = .ok (.iconst 1, 1) := by decide +kernel
theorem dX8_isTime_34 : decode cX8_isTime 34 = .ok (.goto 4, 3) := by decide +kernel
theorem dX8_isTime_37 : decode cX8_isTime 37 = .ok (.iconst 0, 1) := by decide +kernel
theorem dX8_isTime_38 : decode cX8_isTime 38 = .ok (.ireturn, 1) := by decide +kernel
set_option maxRecDepth 20000 in
theorem ggX8_cut_X8_isWire : GoodIn wsX8_cut wsX8_isWire := goodIn_r _ [6, 7, 8, 5, 9] (by decide +kernel) (by decide +kernel)
set_option maxRecDepth 20000 in
theorem gX8_cut_X8_isWire : GoodIn wsX8_cut (va_wsS RX8 106 yX8_isWire wsX8_isWire) := goodIn_app (goodIn_of _ (by decide +kernel)) ggX8_cut_X8_isWire
set_option maxRecDepth 20000 in
theorem ggX8_cut_X8_isTime : GoodIn wsX8_cut wsX8_isTime := goodIn_r _ [13, 14, 7, 8, 5, 9, 20, 21, 22, 23, 24, 25, 26, 27, 28, 29, 30, 31, 32, 33, 34, 35, 36, 37, 38, 39, 40, 41, 42, 43, 44, 45, 46, 47, 48] (by decide +kernel) (by decide +kernel)
set_option maxRecDepth 20000 in
theorem gX8_cut_X8_isTime : GoodIn wsX8_cut (wsV RX8 113 RX8 yX8_isTime wsX8_isTime) := goodIn_app (goodIn_of _ (by decide +kernel)) ggX8_cut_X8_isTime
set_option maxRecDepth 20000 in
theorem ggX8_cut_X8_add : GoodIn wsX8_cut wsX8_add := goodIn_r _ [18, 1, 19, 20, 21, 22, 23, 24, 25, 26, 27, 28, 29, 30, 31, 32, 33, 34, 35, 36, 37, 38, 39, 40, 41, 42, 43, 44, 45, 46, 47, 48] (by decide +kernel) (by decide +kernel)
set_option maxRecDepth 20000 in
theorem gX8_cut_X8_add : GoodIn wsX8_cut (wsV RX8 116 RX8 yX8_add wsX8_add) := goodIn_app (goodIn_of _ (by decide +kernel)) ggX8_cut_X8_add
theorem dX8_cut_0 : decode cX8_cut 0 = .ok (.aload_n 0, 1) := by decide +kernel
theorem dX8_cut_1 : decode cX8_cut 1 = .ok (.iload_n 1, 1) := by decide +kernel
theorem dX8_cut_2 : decode cX8_cut 2 = .ok (.invokestatic 106, 3) := by decide +kernel
theorem dX8_cut_5 : decode cX8_cut 5 = .ok (.ifCond .ne 7, 3) := by decide +kernel
theorem dX8_cut_8 : decode cX8_cut 8 = .ok (.iconst 1, 1) := by decide +kernel
theorem dX8_cut_9 : decode cX8_cut 9 = .ok (.goto 32, 3) := by decide +kernel
theorem dX8_cut_12 : decode cX8_cut 12 = .ok (.aload_n 0, 1) := by decide +kernel
theorem dX8_cut_13 : decode cX8_cut 13 = .ok (.iload_n 2, 1) := by decide +kernel
theorem dX8_cut_14 : decode cX8_cut 14 = .ok (.iload_n 3, 1) := by decide +kernel
theorem dX8_cut_15 : decode cX8_cut 15 = .ok (.iload 4, 2) := by decide +kernel
theorem dX8_cut_17 : decode cX8_cut 17 = .ok (.invokevirtual 113, 3) := by decide +kernel
theorem dX8_cut_20 : decode cX8_cut 20 = .ok (.ifCond .ne 7, 3) := by decide +kernel
theorem dX8_cut_23 : decode cX8_cut 23 = .ok (.iconst 2, 1) := by decide +kernel
theorem dX8_cut_24 : decode cX8_cut 24 = .ok (.goto 17, 3) := by decide +kernel
theorem dX8_cut_27 : decode cX8_cut 27 = .ok (.aload_n 0, 1) := by decide +kernel
theorem dX8_cut_28 : decode cX8_cut 28 = .ok (.getfield 64, 3) := by decide +kernel
theorem dX8_cut_31 : decode cX8_cut 31 = .ok (.bipush 10, 2) := by decide +kernel
theorem dX8_cut_33 : decode cX8_cut 33 = .ok (.if_icmp .ne 7, 3) := by decide +kernel
theorem dX8_cut_36 : decode cX8_cut 36 = .ok (.iconst 3, 1) := by decide +kernel
theorem dX8_cut_37 : decode cX8_cut 37 = .ok (.goto 4, 3) := by decide +kernel
theorem dX8_cut_40 : decode cX8_cut 40 = .ok (.iconst 0, 1) := by decide +kernel
theorem dX8_cut_41 : decode cX8_cut 41 = .ok (.putfield 44, 3) := by decide +kernel
theorem dX8_cut_44 : decode cX8_cut 44 = .ok (.aload_n 0, 1) := by decide +kernel
theorem dX8_cut_45 : decode cX8_cut 45 = .ok (.getfield 44, 3) := by decide +kernel
theorem dX8_cut_48 : decode cX8_cut 48 = .ok (.ifCond .le 7, 3) := by decide +kernel
theorem dX8_cut_51 : decode cX8_cut 51 = .ok (.iconst 0, 1) := by decide +kernel
theorem dX8_cut_52 : decode cX8_cut 52 = .ok (.goto 14, 3) := by decide +kernel
theorem dX8_cut_55 : decode cX8_cut 55 = .ok (.aload_n 0, 1) := by decide +kernel
theorem dX8_cut_56 : decode cX8_cut 56 = .ok (.iconst 0, 1) := by decide +kernel
theorem dX8_cut_57 : decode cX8_cut 57 = .ok (.iload_n 1, 1) := by decide +kernel
theorem dX8_cut_58 : decode cX8_cut 58 = .ok (.iconst (-1), 1) := by decide +kernel
theorem dX8_cut_59 : decode cX8_cut 59 = .ok (.iload_n 2, 1) := by decide +kernel
theorem dX8_cut_60 : decode cX8_cut 60 = .ok (.iload_n 3, 1) := by decide +kernel
theorem dX8_cut_61 : decode cX8_cut 61 = .ok (.iload 4, 2) := by decide +kernel
theorem dX8_cut_63 : decode cX8_cut 63 = .ok (.invokevirtual 116, 3) := by decide +kernel
theorem dX8_cut_66 : decode cX8_cut 66 = .ok (.ireturn, 1) := by decide +kernel
set_option maxRecDepth 20000 in
theorem ggX8_connect_X8_isWire : GoodIn wsX8_connect wsX8_isWire := goodIn_r _ [6, 7, 8, 5, 9] (by decide +kernel) (by decide +kernel)
set_option maxRecDepth 20000 in
theorem gX8_connect_X8_isWire : GoodIn wsX8_connect (va_wsS RX8 106 yX8_isWire wsX8_isWire) := goodIn_app (goodIn_of _ (by decide +kernel)) ggX8_connect_X8_isWire
set_option maxRecDepth 20000 in
theorem ggX8_connect_X8_isTime : GoodIn wsX8_connect wsX8_isTime := goodIn_r _ [13, 14, 7, 8, 5, 9, 20, 21, 22, 23, 24, 25, 26, 27, 28, 29, 30, 31, 32, 33, 34, 35, 36, 37, 38, 39, 40, 41, 42, 43, 44, 45, 46, 47, 48] (by decide +kernel) (by decide +kernel)
set_option maxRecDepth 20000 in
theorem gX8_connect_X8_isTime : GoodIn wsX8_connect (wsV RX8 113 RX8 yX8_isTime wsX8_isTime) := goodIn_app (goodIn_of _ (by decide +kernel)) ggX8_connect_X8_isTime
set_option maxRecDepth 20000 in
theorem ggX8_connect_X8_add : GoodIn wsX8_connect wsX8_add := goodIn_r _ [18, 1, 19, 20, 21, 22, 23, 24, 25, 26, 27, 28, 29, 30, 31, 32, 33, 34, 35, 36, 37, 38, 39, 40, 41, 42, 43, 44, 45, 46, 47, 48] (by decide +kernel) (by decide +kernel)
set_option maxRecDepth 20000 in
theorem gX8_connect_X8_add : GoodIn wsX8_connect (wsV RX8 116 RX8 yX8_add wsX8_add) := goodIn_app (goodIn_of _ (by decide +kernel)) ggX8_connect_X8_add
theorem dX8_connect_0 : decode cX8_connect 0 = .ok (.aload_n 0, 1) := by decide +kernel
theorem dX8_connect_1 : decode cX8_connect 1 = .ok (.iload_n 1, 1) := by decide +kernel
theorem dX8_connect_2 : decode cX8_connect 2 = .ok (.invokestatic 106, 3) := by decide +kernel
theorem dX8_connect_5 : decode cX8_connect 5 = .ok (.ifCond .eq 10, 3) := by decide +kernel
theorem dX8_connect_8 : decode cX8_connect 8 = .ok (.iload_n 2, 1) := by decide +kernel
theorem dX8_connect_9 : decode cX8_connect 9 = .ok (.invokestatic 106, 3) := by decide +kernel
theorem dX8_connect_12 : decode cX8_connect 12 = .ok (.ifCond .ne 7, 3) := by decide +kernel
theorem dX8_connect_15 : decode cX8_connect 15 = .ok (.iconst 1, 1) := by decide +kernel
theorem dX8_connect_16 : decode cX8_connect 16 = .ok (.goto 38, 3) := by decide +kernel
theorem dX8_connect_19 : decode cX8_connect 19 = .ok (.iload_n 1, 1) := by decide +kernel
theorem dX8_connect_20 : decode cX8_connect 20 = .ok (.iload_n 2, 1) := by decide +kernel
theorem dX8_connect_21 : decode cX8_connect 21 = .ok (.if_icmp .eq 15, 3) := by decide +kernel
theorem dX8_connect_24 : decode cX8_connect 24 = .ok (.aload_n 0, 1) := by decide +kernel
theorem dX8_connect_25 : decode cX8_connect 25 = .ok (.iload_n 3, 1) := by decide +kernel
theorem dX8_connect_26 : decode cX8_connect 26 = .ok (.iload 4, 2) := by decide +kernel
theorem dX8_connect_28 : decode cX8_connect 28 = .ok (.iload 5, 2) := by decide +kernel
theorem dX8_connect_30 : decode cX8_connect 30 = .ok (.invokevirtual 113, 3) := by decide +kernel
theorem dX8_connect_33 : decode cX8_connect 33 = .ok (.ifCond .ne 7, 3) := by decide +kernel
theorem dX8_connect_36 : decode cX8_connect 36 = .ok (.iconst 2, 1) := by decide +kernel
theorem dX8_connect_37 : decode cX8_connect 37 = .ok (.goto 17, 3) := by decide +kernel
theorem dX8_connect_40 : decode cX8_connect 40 = .ok (.aload_n 0, 1) := by decide +kernel
theorem dX8_connect_41 : decode cX8_connect 41 = .ok (.getfield 64, 3) := by decide +kernel
theorem dX8_connect_44 : decode cX8_connect 44 = .ok (.bipush 10, 2) := by decide +kernel
theorem dX8_connect_46 : decode cX8_connect 46 = .ok (.if_icmp .ne 7, 3) := by decide +kernel
theorem dX8_connect_49 : decode cX8_connect 49 = .ok (.iconst 3, 1) := by decide +kernel
theorem dX8_connect_50 : decode cX8_connect 50 = .ok (.goto 4, 3) := by decide +kernel
theorem dX8_connect_53 : decode cX8_connect 53 = .ok (.iconst 0, 1) := by decide +kernel
theorem dX8_connect_54 : decode cX8_connect 54 = .ok (.putfield 44, 3) := by decide +kernel
theorem dX8_connect_57 : decode cX8_connect 57 = .ok (.aload_n 0, 1) := by decide +kernel
theorem dX8_connect_58 : decode cX8_connect 58 = .ok (.getfield 44, 3) := by decide +kernel
theorem dX8_connect_61 : decode cX8_connect 61 = .ok (.ifCond .le 7, 3) := by decide +kernel
theorem dX8_connect_64 : decode cX8_connect 64 = .ok (.iconst 0, 1) := by decide +kernel
theorem dX8_connect_65 : decode cX8_connect 65 = .ok (.goto 15, 3) := by decide +kernel
theorem dX8_connect_68 : decode cX8_connect 68 = .ok (.aload_n 0, 1) := by decide +kernel
theorem dX8_connect_69 : decode cX8_connect 69 = .ok (.iconst 1, 1) := by decide +kernel
theorem dX8_connect_70 : decode cX8_connect 70 = .ok (.iload_n 1, 1) := by decide +kernel
theorem dX8_connect_71 : decode cX8_connect 71 = .ok (.iload_n 2, 1) := by decide +kernel
theorem dX8_connect_72 : decode cX8_connect 72 = .ok (.iload_n 3, 1) := by decide +kernel
theorem dX8_connect_73 : decode cX8_connect 73 = .ok (.iload 4, 2) := by decide +kernel
theorem dX8_connect_75 : decode cX8_connect 75 = .ok (.iload 5, 2) := by decide +kernel
theorem dX8_connect_77 : decode cX8_connect 77 = .ok (.invokevirtual 116, 3) := by decide +kernel
theorem dX8_connect_80 : decode cX8_connect 80 = .ok (.ireturn, 1) := by decide +kernel
set_option maxRecDepth 20000 in
theorem ggX8_repair_X8_within : GoodIn wsX8_repair wsX8_within := goodIn_r _ [7] (by decide +kernel) (by decide +kernel)
set_option maxRecDepth 20000 in
theorem gX8_repair_X8_within : GoodIn wsX8_repair (va_wsS RX8 48 yX8_within wsX8_within) := goodIn_app (goodIn_of _ (by decide +kernel)) ggX8_repair_X8_within
theorem dX8_repair_0 : decode cX8_repair 0 = .ok (.aload_n 0, 1) := by decide +kernel
theorem dX8_repair_1 : decode cX8_repair 1 = .ok (.iload_n 1, 1) := by decide +kernel
theorem dX8_repair_2 : decode cX8_repair 2 = .ok (.iconst 0, 1) := by decide +kernel
theorem dX8_repair_3 : decode cX8_repair 3 = .ok (.aload_n 0, 1) := by decide +kernel
theorem dX8_repair_4 : decode cX8_repair 4 = .ok (.getfield 64, 3) := by decide +kernel
theorem dX8_repair_7 : decode cX8_repair 7 = .ok (.iconst 1, 1) := by decide +kernel
theorem dX8_repair_8 : decode cX8_repair 8 = .ok (.isub, 1) := by decide +kernel
theorem dX8_repair_9 : decode cX8_repair 9 = .ok (.invokestatic 48, 3) := by decide +kernel
theorem dX8_repair_12 : decode cX8_repair 12 = .ok (.ifCond .eq 7, 3) := by decide +kernel
theorem dX8_repair_15 : decode cX8_repair 15 = .ok (.iconst 0, 1) := by decide +kernel
theorem dX8_repair_16 : decode cX8_repair 16 = .ok (.goto 4, 3) := by decide +kernel
theorem dX8_repair_19 : decode cX8_repair 19 = .ok (.iconst 1, 1) := by decide +kernel
theorem dX8_repair_20 : decode cX8_repair 20 = .ok (.putfield 44, 3) := by decide +kernel
theorem dX8_repair_23 : decode cX8_repair 23 = .ok (.aload_n 0, 1) := by decide +kernel
theorem dX8_repair_24 : decode cX8_repair 24 = .ok (.getfield 44, 3) := by decide +kernel
theorem dX8_repair_27 : decode cX8_repair 27 = .ok (.ifCond .le 5, 3) := by decide +kernel
theorem dX8_repair_30 : decode cX8_repair 30 = .ok (.iconst 0, 1) := by decide +kernel
theorem dX8_repair_31 : decode cX8_repair 31 = .ok (.ireturn, 1) := by decide +kernel
theorem dX8_repair_32 : decode cX8_repair 32 = .ok (.aload_n 0, 1) := by decide +kernel
theorem dX8_repair_33 : decode cX8_repair 33 = .ok (.dup, 1) := by decide +kernel
theorem dX8_repair_34 : decode cX8_repair 34 = .ok (.getfield 64, 3) := by decide +kernel
theorem dX8_repair_37 : decode cX8_repair 37 = .ok (.iconst 1, 1) := by decide +kernel
theorem dX8_repair_38 : decode cX8_repair 38 = .ok (.isub, 1) := by decide +kernel
theorem dX8_repair_39 : decode cX8_repair 39 = .ok (.putfield 64, 3) := by decide +kernel
theorem dX8_repair_42 : decode cX8_repair 42 = .ok (.bipush 6, 2) := by decide +kernel
theorem dX8_repair_44 : decode cX8_repair 44 = .ok (.iload_n 1, 1) := by decide +kernel
theorem dX8_repair_45 : decode cX8_repair 45 = .ok (.imul, 1) := by decide +kernel
theorem dX8_repair_46 : decode cX8_repair 46 = .ok (.istore_n 2, 1) := by decide +kernel
theorem dX8_repair_47 : decode cX8_repair 47 = .ok (.iload_n 2, 1) := by decide +kernel
theorem dX8_repair_48 : decode cX8_repair 48 = .ok (.bipush 6, 2) := by decide +kernel
theorem dX8_repair_50 : decode cX8_repair 50 = .ok (.aload_n 0, 1) := by decide +kernel
theorem dX8_repair_51 : decode cX8_repair 51 = .ok (.getfield 64, 3) := by decide +kernel
theorem dX8_repair_54 : decode cX8_repair 54 = .ok (.imul, 1) := by decide +kernel
theorem dX8_repair_55 : decode cX8_repair 55 = .ok (.if_icmp .ge 24, 3) := by decide +kernel
theorem dX8_repair_58 : decode cX8_repair 58 = .ok (.aload_n 0, 1) := by decide +kernel
theorem dX8_repair_59 : decode cX8_repair 59 = .ok (.getfield 13, 3) := by decide +kernel
theorem dX8_repair_62 : decode cX8_repair 62 = .ok (.iload_n 2, 1) := by decide +kernel
theorem dX8_repair_63 : decode cX8_repair 63 = .ok (.aload_n 0, 1) := by decide +kernel
theorem dX8_repair_64 : decode cX8_repair 64 = .ok (.getfield 13, 3) := by decide +kernel
theorem dX8_repair_67 : decode cX8_repair 67 = .ok (.iload_n 2, 1) := by decide +kernel
theorem dX8_repair_68 : decode cX8_repair 68 = .ok (.bipush 6, 2) := by decide +kernel
theorem dX8_repair_70 : decode cX8_repair 70 = .ok (.iadd, 1) := by decide +kernel
theorem dX8_repair_71 : decode cX8_repair 71 = .ok (.iaload, 1) := by decide +kernel
theorem dX8_repair_72 : decode cX8_repair 72 = .ok (.iastore, 1) := by decide +kernel
theorem dX8_repair_73 : decode cX8_repair 73 = .ok (.iinc 2 1, 3) := by decide +kernel
theorem dX8_repair_76 : decode cX8_repair 76 = .ok (.goto (-29), 3) := by decide +kernel
theorem dX8_repair_79 : decode cX8_repair 79 = .ok (.aload_n 0, 1) := by decide +kernel
theorem dX8_repair_80 : decode cX8_repair 80 = .ok (.getfield 64, 3) := by decide +kernel
theorem dX8_repair_83 : decode cX8_repair 83 = .ok (.ireturn, 1) := by decide +kernel
set_option maxRecDepth 20000 in
theorem ggX8_plug_X8_within : GoodIn wsX8_plug wsX8_within := goodIn_r _ [6] (by decide +kernel) (by decide +kernel)
set_option maxRecDepth 20000 in
theorem gX8_plug_X8_within : GoodIn wsX8_plug (va_wsS RX8 48 yX8_within wsX8_within) := goodIn_app (goodIn_of _ (by decide +kernel)) ggX8_plug_X8_within
theorem dX8_plug_0 : decode cX8_plug 0 = .ok (.aload_n 0, 1) := by decide +kernel
theorem dX8_plug_1 : decode cX8_plug 1 = .ok (.iload_n 1, 1) := by decide +kernel
theorem dX8_plug_2 : decode cX8_plug 2 = .ok (.iconst 0, 1) := by decide +kernel
theorem dX8_plug_3 : decode cX8_plug 3 = .ok (.bipush 99, 2) := by decide +kernel
theorem dX8_plug_5 : decode cX8_plug 5 = .ok (.invokestatic 48, 3) := by decide +kernel
theorem dX8_plug_8 : decode cX8_plug 8 = .ok (.ifCond .eq 7, 3) := by decide +kernel
theorem dX8_plug_11 : decode cX8_plug 11 = .ok (.iconst 0, 1) := by decide +kernel
theorem dX8_plug_12 : decode cX8_plug 12 = .ok (.goto 4, 3) := by decide +kernel
theorem dX8_plug_15 : decode cX8_plug 15 = .ok (.iconst 1, 1) := by decide +kernel
theorem dX8_plug_16 : decode cX8_plug 16 = .ok (.putfield 44, 3) := by decide +kernel
theorem dX8_plug_19 : decode cX8_plug 19 = .ok (.aload_n 0, 1) := by decide +kernel
theorem dX8_plug_20 : decode cX8_plug 20 = .ok (.getfield 44, 3) := by decide +kernel
theorem dX8_plug_23 : decode cX8_plug 23 = .ok (.ifCond .le 5, 3) := by decide +kernel
theorem dX8_plug_26 : decode cX8_plug 26 = .ok (.iconst 0, 1) := by decide +kernel
theorem dX8_plug_27 : decode cX8_plug 27 = .ok (.ireturn, 1) := by decide +kernel
theorem dX8_plug_28 : decode cX8_plug 28 = .ok (.aload_n 0, 1) := by decide +kernel
theorem dX8_plug_29 : decode cX8_plug 29 = .ok (.getfield 58, 3) := by decide +kernel
theorem dX8_plug_32 : decode cX8_plug 32 = .ok (.istore_n 2, 1) := by decide +kernel
theorem dX8_plug_33 : decode cX8_plug 33 = .ok (.aload_n 0, 1) := by decide +kernel
theorem dX8_plug_34 : decode cX8_plug 34 = .ok (.iload_n 1, 1) := by decide +kernel
theorem dX8_plug_35 : decode cX8_plug 35 = .ok (.putfield 58, 3) := by decide +kernel
theorem dX8_plug_38 : decode cX8_plug 38 = .ok (.iload_n 2, 1) := by decide +kernel
theorem dX8_plug_39 : decode cX8_plug 39 = .ok (.ireturn, 1) := by decide +kernel
set_option maxRecDepth 20000 in
theorem ggX8_record_X8_wrong : GoodIn wsX8_record wsX8_wrong := goodIn_r _ [8, 9, 10, 11, 7, 12, 13, 14, 15, 16, 17, 18, 19, 20, 21, 22, 23, 24, 25, 26, 27, 28, 29, 30, 31, 32, 33, 34, 35, 36, 37, 38, 39, 40, 41, 42, 43, 44, 45, 46, 47, 48, 49, 50, 51, 52, 53, 54, 55, 56, 57, 58, 59, 60, 61, 62, 63, 64, 65, 66, 67, 68, 69, 70, 71, 72, 73, 74, 75, 76, 77, 78] (by decide +kernel) (by decide +kernel)
set_option maxRecDepth 20000 in
theorem gX8_record_X8_wrong : GoodIn wsX8_record (wsV RX8 120 RX8 yX8_wrong wsX8_wrong) := goodIn_app (goodIn_of _ (by decide +kernel)) ggX8_record_X8_wrong
theorem dX8_record_0 : decode cX8_record 0 = .ok (.aload_n 0, 1) := by decide +kernel
theorem dX8_record_1 : decode cX8_record 1 = .ok (.getfield 67, 3) := by decide +kernel
theorem dX8_record_4 : decode cX8_record 4 = .ok (.bipush 64, 2) := by decide +kernel
theorem dX8_record_6 : decode cX8_record 6 = .ok (.if_icmp .ne 41, 3) := by decide +kernel
theorem dX8_record_9 : decode cX8_record 9 = .ok (.iconst 1, 1) := by decide +kernel
theorem dX8_record_10 : decode cX8_record 10 = .ok (.istore_n 1, 1) := by decide +kernel
theorem dX8_record_11 : decode cX8_record 11 = .ok (.iload_n 1, 1) := by decide +kernel
theorem dX8_record_12 : decode cX8_record 12 = .ok (.bipush 64, 2) := by decide +kernel
theorem dX8_record_14 : decode cX8_record 14 = .ok (.if_icmp .ge 23, 3) := by decide +kernel
theorem dX8_record_17 : decode cX8_record 17 = .ok (.aload_n 0, 1) := by decide +kernel
theorem dX8_record_18 : decode cX8_record 18 = .ok (.getfield 16, 3) := by decide +kernel
theorem dX8_record_21 : decode cX8_record 21 = .ok (.iload_n 1, 1) := by decide +kernel
theorem dX8_record_22 : decode cX8_record 22 = .ok (.iconst 1, 1) := by decide +kernel
theorem dX8_record_23 : decode cX8_record 23 = .ok (.isub, 1) := by decide +kernel
theorem dX8_record_24 : decode cX8_record 24 = .ok (.aload_n 0, 1) := by decide +kernel
theorem dX8_record_25 : decode cX8_record 25 = .ok (.getfield 16, 3) := by decide +kernel
theorem dX8_record_28 : decode cX8_record 28 = .ok (.iload_n 1, 1) := by decide +kernel
theorem dX8_record_29 : decode cX8_record 29 = .ok (.iaload, 1) := by decide +kernel
theorem dX8_record_30 : decode cX8_record 30 = .ok (.iastore, 1) := by decide +kernel
theorem dX8_record_31 : decode cX8_record 31 = .ok (.iinc 1 1, 3) := by decide +kernel
theorem dX8_record_34 : decode cX8_record 34 = .ok (.goto (-23), 3) := by decide +kernel
theorem dX8_record_37 : decode cX8_record 37 = .ok (.aload_n 0, 1) := by decide +kernel
theorem dX8_record_38 : decode cX8_record 38 = .ok (.dup, 1) := by decide +kernel
theorem dX8_record_39 : decode cX8_record 39 = .ok (.getfield 67, 3) := by decide +kernel
theorem dX8_record_42 : decode cX8_record 42 = .ok (.iconst 1, 1) := by decide +kernel
theorem dX8_record_43 : decode cX8_record 43 = .ok (.isub, 1) := by decide +kernel
theorem dX8_record_44 : decode cX8_record 44 = .ok (.putfield 67, 3) := by decide +kernel
theorem dX8_record_47 : decode cX8_record 47 = .ok (.aload_n 0, 1) := by decide +kernel
theorem dX8_record_48 : decode cX8_record 48 = .ok (.getfield 16, 3) := by decide +kernel
theorem dX8_record_51 : decode cX8_record 51 = .ok (.aload_n 0, 1) := by decide +kernel
theorem dX8_record_52 : decode cX8_record 52 = .ok (.getfield 67, 3) := by decide +kernel
theorem dX8_record_55 : decode cX8_record 55 = .ok (.aload_n 0, 1) := by decide +kernel
theorem dX8_record_56 : decode cX8_record 56 = .ok (.aload_n 0, 1) := by decide +kernel
theorem dX8_record_57 : decode cX8_record 57 = .ok (.getfield 61, 3) := by decide +kernel
theorem dX8_record_60 : decode cX8_record 60 = .ok (.invokevirtual 120, 3) := by decide +kernel
theorem dX8_record_63 : decode cX8_record 63 = .ok (.iastore, 1) := by decide +kernel
theorem dX8_record_64 : decode cX8_record 64 = .ok (.aload_n 0, 1) := by decide +kernel
theorem dX8_record_65 : decode cX8_record 65 = .ok (.dup, 1) := by decide +kernel
theorem dX8_record_66 : decode cX8_record 66 = .ok (.getfield 67, 3) := by decide +kernel
theorem dX8_record_69 : decode cX8_record 69 = .ok (.iconst 1, 1) := by decide +kernel
theorem dX8_record_70 : decode cX8_record 70 = .ok (.iadd, 1) := by decide +kernel
theorem dX8_record_71 : decode cX8_record 71 = .ok (.putfield 67, 3) := by decide +kernel
theorem dX8_record_74 : decode cX8_record 74 = .ok (.return_, 1) := by decide +kernel
set_option maxRecDepth 20000 in
theorem ggX8_pass_X8_within : GoodIn wsX8_pass wsX8_within := goodIn_r _ [7] (by decide +kernel) (by decide +kernel)
set_option maxRecDepth 20000 in
theorem gX8_pass_X8_within : GoodIn wsX8_pass (va_wsS RX8 48 yX8_within wsX8_within) := goodIn_app (goodIn_of _ (by decide +kernel)) ggX8_pass_X8_within
set_option maxRecDepth 20000 in
theorem ggX8_pass_X8_record : GoodIn wsX8_pass wsX8_record := goodIn_r _ [11, 12, 13, 1, 14, 15, 16, 6, 17, 18, 19, 20, 21, 22, 23, 24, 25, 26, 27, 28, 29, 30, 31, 32, 33, 34, 35, 36, 37, 38, 39, 40, 41, 42, 43, 44, 45, 46, 47, 48, 49, 50, 51, 52, 53, 54, 55, 56, 57, 58, 59, 60, 61, 62, 63, 64, 65, 66, 67, 68, 69, 70, 71, 72, 73, 74, 75, 76, 77, 78, 79, 80, 81, 82, 83, 84, 85, 86, 87] (by decide +kernel) (by decide +kernel)
set_option maxRecDepth 20000 in
theorem gX8_pass_X8_record : GoodIn wsX8_pass (wsV RX8 124 RX8 yX8_record wsX8_record) := goodIn_app (goodIn_of _ (by decide +kernel)) ggX8_pass_X8_record
theorem dX8_pass_0 : decode cX8_pass 0 = .ok (.aload_n 0, 1) := by decide +kernel
theorem dX8_pass_1 : decode cX8_pass 1 = .ok (.iload_n 1, 1) := by decide +kernel
theorem dX8_pass_2 : decode cX8_pass 2 = .ok (.iconst 1, 1) := by decide +kernel
theorem dX8_pass_3 : decode cX8_pass 3 = .ok (.bipush 100, 2) := by decide +kernel
theorem dX8_pass_5 : decode cX8_pass 5 = .ok (.invokestatic 48, 3) := by decide +kernel
theorem dX8_pass_8 : decode cX8_pass 8 = .ok (.ifCond .ne 7, 3) := by decide +kernel
theorem dX8_pass_11 : decode cX8_pass 11 = .ok (.iconst 1, 1) := by decide +kernel
theorem dX8_pass_12 : decode cX8_pass 12 = .ok (.goto 19, 3) := by decide +kernel
theorem dX8_pass_15 : decode cX8_pass 15 = .ok (.aload_n 0, 1) := by decide +kernel
theorem dX8_pass_16 : decode cX8_pass 16 = .ok (.getfield 61, 3) := by decide +kernel
theorem dX8_pass_19 : decode cX8_pass 19 = .ok (.iload_n 1, 1) := by decide +kernel
theorem dX8_pass_20 : decode cX8_pass 20 = .ok (.iadd, 1) := by decide +kernel
theorem dX8_pass_21 : decode cX8_pass 21 = .ok (.ldc 123, 2) := by decide +kernel
theorem dX8_pass_23 : decode cX8_pass 23 = .ok (.if_icmp .le 7, 3) := by decide +kernel
theorem dX8_pass_26 : decode cX8_pass 26 = .ok (.iconst 2, 1) := by decide +kernel
theorem dX8_pass_27 : decode cX8_pass 27 = .ok (.goto 4, 3) := by decide +kernel
theorem dX8_pass_30 : decode cX8_pass 30 = .ok (.iconst 0, 1) := by decide +kernel
theorem dX8_pass_31 : decode cX8_pass 31 = .ok (.putfield 44, 3) := by decide +kernel
theorem dX8_pass_34 : decode cX8_pass 34 = .ok (.aload_n 0, 1) := by decide +kernel
theorem dX8_pass_35 : decode cX8_pass 35 = .ok (.getfield 44, 3) := by decide +kernel
theorem dX8_pass_38 : decode cX8_pass 38 = .ok (.ifCond .le 5, 3) := by decide +kernel
theorem dX8_pass_41 : decode cX8_pass 41 = .ok (.iconst 0, 1) := by decide +kernel
theorem dX8_pass_42 : decode cX8_pass 42 = .ok (.ireturn, 1) := by decide +kernel
theorem dX8_pass_43 : decode cX8_pass 43 = .ok (.iconst 0, 1) := by decide +kernel
theorem dX8_pass_44 : decode cX8_pass 44 = .ok (.istore_n 2, 1) := by decide +kernel
theorem dX8_pass_45 : decode cX8_pass 45 = .ok (.iload_n 2, 1) := by decide +kernel
theorem dX8_pass_46 : decode cX8_pass 46 = .ok (.iload_n 1, 1) := by decide +kernel
theorem dX8_pass_47 : decode cX8_pass 47 = .ok (.if_icmp .ge 23, 3) := by decide +kernel
theorem dX8_pass_50 : decode cX8_pass 50 = .ok (.aload_n 0, 1) := by decide +kernel
theorem dX8_pass_51 : decode cX8_pass 51 = .ok (.dup, 1) := by decide +kernel
theorem dX8_pass_52 : decode cX8_pass 52 = .ok (.getfield 61, 3) := by decide +kernel
theorem dX8_pass_55 : decode cX8_pass 55 = .ok (.iconst 1, 1) := by decide +kernel
theorem dX8_pass_56 : decode cX8_pass 56 = .ok (.iadd, 1) := by decide +kernel
theorem dX8_pass_57 : decode cX8_pass 57 = .ok (.putfield 61, 3) := by decide +kernel
theorem dX8_pass_60 : decode cX8_pass 60 = .ok (.aload_n 0, 1) := by decide +kernel
theorem dX8_pass_61 : decode cX8_pass 61 = .ok (.invokevirtual 124, 3) := by decide +kernel
theorem dX8_pass_64 : decode cX8_pass 64 = .ok (.iinc 2 1, 3) := by decide +kernel
theorem dX8_pass_67 : decode cX8_pass 67 = .ok (.goto (-22), 3) := by decide +kernel
theorem dX8_pass_70 : decode cX8_pass 70 = .ok (.aload_n 0, 1) := by decide +kernel
theorem dX8_pass_71 : decode cX8_pass 71 = .ok (.getfield 61, 3) := by decide +kernel
theorem dX8_pass_74 : decode cX8_pass 74 = .ok (.ireturn, 1) := by decide +kernel
set_option maxRecDepth 20000 in
theorem ggX8_append_X8_within : GoodIn wsX8_append wsX8_within := goodIn_r _ [7] (by decide +kernel) (by decide +kernel)
set_option maxRecDepth 20000 in
theorem gX8_append_X8_within : GoodIn wsX8_append (va_wsS RX8 48 yX8_within wsX8_within) := goodIn_app (goodIn_of _ (by decide +kernel)) ggX8_append_X8_within
theorem dX8_append_0 : decode cX8_append 0 = .ok (.aload_n 0, 1) := by decide +kernel
theorem dX8_append_1 : decode cX8_append 1 = .ok (.iload_n 1, 1) := by decide +kernel
theorem dX8_append_2 : decode cX8_append 2 = .ok (.bipush 33, 2) := by decide +kernel
theorem dX8_append_4 : decode cX8_append 4 = .ok (.bipush 126, 2) := by decide +kernel
theorem dX8_append_6 : decode cX8_append 6 = .ok (.invokestatic 48, 3) := by decide +kernel
theorem dX8_append_9 : decode cX8_append 9 = .ok (.ifCond .ne 7, 3) := by decide +kernel
theorem dX8_append_12 : decode cX8_append 12 = .ok (.iconst 1, 1) := by decide +kernel
theorem dX8_append_13 : decode cX8_append 13 = .ok (.goto 17, 3) := by decide +kernel
theorem dX8_append_16 : decode cX8_append 16 = .ok (.aload_n 0, 1) := by decide +kernel
theorem dX8_append_17 : decode cX8_append 17 = .ok (.getfield 127, 3) := by decide +kernel
theorem dX8_append_20 : decode cX8_append 20 = .ok (.bipush 50, 2) := by decide +kernel
theorem dX8_append_22 : decode cX8_append 22 = .ok (.if_icmp .ne 7, 3) := by decide +kernel
theorem dX8_append_25 : decode cX8_append 25 = .ok (.iconst 2, 1) := by decide +kernel
theorem dX8_append_26 : decode cX8_append 26 = .ok (.goto 4, 3) := by decide +kernel
theorem dX8_append_29 : decode cX8_append 29 = .ok (.iconst 0, 1) := by decide +kernel
theorem dX8_append_30 : decode cX8_append 30 = .ok (.putfield 44, 3) := by decide +kernel
theorem dX8_append_33 : decode cX8_append 33 = .ok (.aload_n 0, 1) := by decide +kernel
theorem dX8_append_34 : decode cX8_append 34 = .ok (.getfield 44, 3) := by decide +kernel
theorem dX8_append_37 : decode cX8_append 37 = .ok (.ifCond .le 5, 3) := by decide +kernel
theorem dX8_append_40 : decode cX8_append 40 = .ok (.iconst 0, 1) := by decide +kernel
theorem dX8_append_41 : decode cX8_append 41 = .ok (.ireturn, 1) := by decide +kernel
theorem dX8_append_42 : decode cX8_append 42 = .ok (.aload_n 0, 1) := by decide +kernel
theorem dX8_append_43 : decode cX8_append 43 = .ok (.getfield 19, 3) := by decide +kernel
theorem dX8_append_46 : decode cX8_append 46 = .ok (.aload_n 0, 1) := by decide +kernel
theorem dX8_append_47 : decode cX8_append 47 = .ok (.getfield 127, 3) := by decide +kernel
theorem dX8_append_50 : decode cX8_append 50 = .ok (.iload_n 1, 1) := by decide +kernel
theorem dX8_append_51 : decode cX8_append 51 = .ok (.iastore, 1) := by decide +kernel
theorem dX8_append_52 : decode cX8_append 52 = .ok (.aload_n 0, 1) := by decide +kernel
theorem dX8_append_53 : decode cX8_append 53 = .ok (.dup, 1) := by decide +kernel
theorem dX8_append_54 : decode cX8_append 54 = .ok (.getfield 127, 3) := by decide +kernel
theorem dX8_append_57 : decode cX8_append 57 = .ok (.iconst 1, 1) := by decide +kernel
theorem dX8_append_58 : decode cX8_append 58 = .ok (.iadd, 1) := by decide +kernel
theorem dX8_append_59 : decode cX8_append 59 = .ok (.putfield 127, 3) := by decide +kernel
theorem dX8_append_62 : decode cX8_append 62 = .ok (.aload_n 0, 1) := by decide +kernel
theorem dX8_append_63 : decode cX8_append 63 = .ok (.getfield 127, 3) := by decide +kernel
theorem dX8_append_66 : decode cX8_append 66 = .ok (.ireturn, 1) := by decide +kernel
theorem dX8_clearBuffer_0 : decode cX8_clearBuffer 0 = .ok (.aload_n 0, 1) := by decide +kernel
theorem dX8_clearBuffer_1 : decode cX8_clearBuffer 1 = .ok (.iconst 0, 1) := by decide +kernel
theorem dX8_clearBuffer_2 : decode cX8_clearBuffer 2 = .ok (.putfield 44, 3) := by decide +kernel
theorem dX8_clearBuffer_5 : decode cX8_clearBuffer 5 = .ok (.aload_n 0, 1) := by decide +kernel
theorem dX8_clearBuffer_6 : decode cX8_clearBuffer 6 = .ok (.getfield 127, 3) := by decide +kernel
theorem dX8_clearBuffer_9 : decode cX8_clearBuffer 9 = .ok (.istore_n 1, 1) := by decide +kernel
theorem dX8_clearBuffer_10 : decode cX8_clearBuffer 10 = .ok (.aload_n 0, 1) := by decide +kernel
theorem dX8_clearBuffer_11 : decode cX8_clearBuffer 11 = .ok (.iconst 0, 1) := by decide +kernel
theorem dX8_clearBuffer_12 : decode cX8_clearBuffer 12 = .ok (.putfield 127, 3) := by decide +kernel
theorem dX8_clearBuffer_15 : decode cX8_clearBuffer 15 = .ok (.iload_n 1, 1) := by decide +kernel
theorem dX8_clearBuffer_16 : decode cX8_clearBuffer 16 = .ok (.ireturn, 1) := by decide +kernel
theorem dX8_takesSign_0 : decode cX8_takesSign 0 = .ok (.iload_n 1, 1) := by decide +kernel
theorem dX8_takesSign_1 : decode cX8_takesSign 1 = .ok (.bipush 99, 2) := by decide +kernel
theorem dX8_takesSign_3 : decode cX8_takesSign 3 = .ok (.if_icmp .eq 21, 3) := by decide +kernel
theorem dX8_takesSign_6 : decode cX8_takesSign 6 = .ok (.iload_n 1, 1) := by decide +kernel
theorem dX8_takesSign_7 : decode cX8_takesSign 7 = .ok (.bipush 115, 2) := by decide +kernel
theorem dX8_takesSign_9 : decode cX8_takesSign 9 = .ok (.if_icmp .eq 15, 3) := by decide +kernel
theorem dX8_takesSign_12 : decode cX8_takesSign 12 = .ok (.iload_n 1, 1) := by decide +kernel
theorem dX8_takesSign_13 : decode cX8_takesSign 13 = .ok (.bipush 110, 2) := by decide +kernel
theorem dX8_takesSign_15 : decode cX8_takesSign 15 = .ok (.if_icmp .eq 9, 3) := by decide +kernel
theorem dX8_takesSign_18 : decode cX8_takesSign 18 = .ok (.iload_n 1, 1) := by decide +kernel
theorem dX8_takesSign_19 : decode cX8_takesSign 19 = .ok (.bipush 102, 2) := by decide +kernel
theorem dX8_takesSign_21 : decode cX8_takesSign 21 = .ok (.if_icmp .ne 7, 3) := by decide +kernel
theorem dX8_takesSign_24 : decode cX8_takesSign 24 = .ok (.iconst 1, 1) := by decide +kernel
theorem dX8_takesSign_25 : decode cX8_takesSign 25 = .ok (.goto 4, 3) := by decide +kernel
theorem dX8_takesSign_28 : decode cX8_takesSign 28 = .ok (.iconst 0, 1) := by decide +kernel
theorem dX8_takesSign_29 : decode cX8_takesSign 29 = .ok (.istore_n 2, 1) := by decide +kernel
theorem dX8_takesSign_30 : decode cX8_takesSign 30 = .ok (.iload_n 2, 1) := by decide +kernel
theorem dX8_takesSign_31 : decode cX8_takesSign 31 = .ok (.ifCond .eq 33, 3) := by decide +kernel
theorem dX8_takesSign_34 : decode cX8_takesSign 34 = .ok (.aload_n 0, 1) := by decide +kernel
theorem dX8_takesSign_35 : decode cX8_takesSign 35 = .ok (.iload_n 1, 1) := by decide +kernel
theorem dX8_takesSign_36 : decode cX8_takesSign 36 = .ok (.putfield 130, 3) := by decide +kernel
theorem dX8_takesSign_39 : decode cX8_takesSign 39 = .ok (.aload_n 0, 1) := by decide +kernel
theorem dX8_takesSign_40 : decode cX8_takesSign 40 = .ok (.iconst (-1), 1) := by decide +kernel
theorem dX8_takesSign_41 : decode cX8_takesSign 41 = .ok (.putfield 133, 3) := by decide +kernel
theorem dX8_takesSign_44 : decode cX8_takesSign 44 = .ok (.aload_n 0, 1) := by decide +kernel
theorem dX8_takesSign_45 : decode cX8_takesSign 45 = .ok (.iconst 0, 1) := by decide +kernel
theorem dX8_takesSign_46 : decode cX8_takesSign 46 = .ok (.putfield 136, 3) := by decide +kernel
theorem dX8_takesSign_49 : decode cX8_takesSign 49 = .ok (.aload_n 0, 1) := by decide +kernel
theorem dX8_takesSign_50 : decode cX8_takesSign 50 = .ok (.iconst 0, 1) := by decide +kernel
theorem dX8_takesSign_51 : decode cX8_takesSign 51 = .ok (.putfield 139, 3) := by decide +kernel
theorem dX8_takesSign_54 : decode cX8_takesSign 54 = .ok (.aload_n 0, 1) := by decide +kernel
theorem dX8_takesSign_55 : decode cX8_takesSign 55 = .ok (.iconst 0, 1) := by decide +kernel
theorem dX8_takesSign_56 : decode cX8_takesSign 56 = .ok (.putfield 142, 3) := by decide +kernel
theorem dX8_takesSign_59 : decode cX8_takesSign 59 = .ok (.aload_n 0, 1) := by decide +kernel
theorem dX8_takesSign_60 : decode cX8_takesSign 60 = .ok (.iconst 1, 1) := by decide +kernel
theorem dX8_takesSign_61 : decode cX8_takesSign 61 = .ok (.putfield 145, 3) := by decide +kernel
theorem dX8_takesSign_64 : decode cX8_takesSign 64 = .ok (.iload_n 2, 1) := by decide +kernel
theorem dX8_takesSign_65 : decode cX8_takesSign 65 = .ok (.ireturn, 1) := by decide +kernel
set_option maxRecDepth 20000 in
theorem ggX8_takesPin_X8_within : GoodIn wsX8_takesPin wsX8_within := goodIn_r _ [8] (by decide +kernel) (by decide +kernel)
set_option maxRecDepth 20000 in
theorem gX8_takesPin_X8_within : GoodIn wsX8_takesPin (va_wsS RX8 48 yX8_within wsX8_within) := goodIn_app (goodIn_of _ (by decide +kernel)) ggX8_takesPin_X8_within
theorem dX8_takesPin_0 : decode cX8_takesPin 0 = .ok (.iload_n 1, 1) := by decide +kernel
theorem dX8_takesPin_1 : decode cX8_takesPin 1 = .ok (.bipush 48, 2) := by decide +kernel
theorem dX8_takesPin_3 : decode cX8_takesPin 3 = .ok (.bipush 55, 2) := by decide +kernel
theorem dX8_takesPin_5 : decode cX8_takesPin 5 = .ok (.invokestatic 48, 3) := by decide +kernel
theorem dX8_takesPin_8 : decode cX8_takesPin 8 = .ok (.ifCond .eq 26, 3) := by decide +kernel
theorem dX8_takesPin_11 : decode cX8_takesPin 11 = .ok (.aload_n 0, 1) := by decide +kernel
theorem dX8_takesPin_12 : decode cX8_takesPin 12 = .ok (.getfield 145, 3) := by decide +kernel
theorem dX8_takesPin_15 : decode cX8_takesPin 15 = .ok (.iconst 1, 1) := by decide +kernel
theorem dX8_takesPin_16 : decode cX8_takesPin 16 = .ok (.if_icmp .eq 14, 3) := by decide +kernel
theorem dX8_takesPin_19 : decode cX8_takesPin 19 = .ok (.iload_n 1, 1) := by decide +kernel
theorem dX8_takesPin_20 : decode cX8_takesPin 20 = .ok (.bipush 48, 2) := by decide +kernel
theorem dX8_takesPin_22 : decode cX8_takesPin 22 = .ok (.isub, 1) := by decide +kernel
theorem dX8_takesPin_23 : decode cX8_takesPin 23 = .ok (.aload_n 0, 1) := by decide +kernel
theorem dX8_takesPin_24 : decode cX8_takesPin 24 = .ok (.getfield 148, 3) := by decide +kernel
theorem dX8_takesPin_27 : decode cX8_takesPin 27 = .ok (.if_icmp .eq 7, 3) := by decide +kernel
theorem dX8_takesPin_30 : decode cX8_takesPin 30 = .ok (.iconst 1, 1) := by decide +kernel
theorem dX8_takesPin_31 : decode cX8_takesPin 31 = .ok (.goto 4, 3) := by decide +kernel
theorem dX8_takesPin_34 : decode cX8_takesPin 34 = .ok (.iconst 0, 1) := by decide +kernel
theorem dX8_takesPin_35 : decode cX8_takesPin 35 = .ok (.istore_n 2, 1) := by decide +kernel
theorem dX8_takesPin_36 : decode cX8_takesPin 36 = .ok (.iload_n 2, 1) := by decide +kernel
theorem dX8_takesPin_37 : decode cX8_takesPin 37 = .ok (.ifCond .eq 40, 3) := by decide +kernel
theorem dX8_takesPin_40 : decode cX8_takesPin 40 = .ok (.aload_n 0, 1) := by decide +kernel
theorem dX8_takesPin_41 : decode cX8_takesPin 41 = .ok (.getfield 145, 3) := by decide +kernel
theorem dX8_takesPin_44 : decode cX8_takesPin 44 = .ok (.iconst 1, 1) := by decide +kernel
theorem dX8_takesPin_45 : decode cX8_takesPin 45 = .ok (.if_icmp .ne 32, 3) := by decide +kernel
theorem dX8_takesPin_48 : decode cX8_takesPin 48 = .ok (.aload_n 0, 1) := by decide +kernel
theorem dX8_takesPin_49 : decode cX8_takesPin 49 = .ok (.iload_n 1, 1) := by decide +kernel
theorem dX8_takesPin_50 : decode cX8_takesPin 50 = .ok (.bipush 48, 2) := by decide +kernel
theorem dX8_takesPin_52 : decode cX8_takesPin 52 = .ok (.isub, 1) := by decide +kernel
theorem dX8_takesPin_53 : decode cX8_takesPin 53 = .ok (.putfield 148, 3) := by decide +kernel
theorem dX8_takesPin_56 : decode cX8_takesPin 56 = .ok (.aload_n 0, 1) := by decide +kernel
theorem dX8_takesPin_57 : decode cX8_takesPin 57 = .ok (.aload_n 0, 1) := by decide +kernel
theorem dX8_takesPin_58 : decode cX8_takesPin 58 = .ok (.getfield 130, 3) := by decide +kernel
theorem dX8_takesPin_61 : decode cX8_takesPin 61 = .ok (.bipush 99, 2) := by decide +kernel
theorem dX8_takesPin_63 : decode cX8_takesPin 63 = .ok (.if_icmp .ne 7, 3) := by decide +kernel
theorem dX8_takesPin_66 : decode cX8_takesPin 66 = .ok (.iconst 3, 1) := by decide +kernel
theorem dX8_takesPin_67 : decode cX8_takesPin 67 = .ok (.goto 4, 3) := by decide +kernel
theorem dX8_takesPin_70 : decode cX8_takesPin 70 = .ok (.iconst 2, 1) := by decide +kernel
theorem dX8_takesPin_71 : decode cX8_takesPin 71 = .ok (.putfield 145, 3) := by decide +kernel
theorem dX8_takesPin_74 : decode cX8_takesPin 74 = .ok (.goto 34, 3) := by decide +kernel
theorem dX8_takesPin_77 : decode cX8_takesPin 77 = .ok (.iload_n 2, 1) := by decide +kernel
theorem dX8_takesPin_78 : decode cX8_takesPin 78 = .ok (.ifCond .eq 30, 3) := by decide +kernel
theorem dX8_takesPin_81 : decode cX8_takesPin 81 = .ok (.aload_n 0, 1) := by decide +kernel
theorem dX8_takesPin_82 : decode cX8_takesPin 82 = .ok (.iload_n 1, 1) := by decide +kernel
theorem dX8_takesPin_83 : decode cX8_takesPin 83 = .ok (.bipush 48, 2) := by decide +kernel
theorem dX8_takesPin_85 : decode cX8_takesPin 85 = .ok (.isub, 1) := by decide +kernel
theorem dX8_takesPin_86 : decode cX8_takesPin 86 = .ok (.putfield 133, 3) := by decide +kernel
theorem dX8_takesPin_89 : decode cX8_takesPin 89 = .ok (.aload_n 0, 1) := by decide +kernel
theorem dX8_takesPin_90 : decode cX8_takesPin 90 = .ok (.aload_n 0, 1) := by decide +kernel
theorem dX8_takesPin_91 : decode cX8_takesPin 91 = .ok (.getfield 130, 3) := by decide +kernel
theorem dX8_takesPin_94 : decode cX8_takesPin 94 = .ok (.bipush 115, 2) := by decide +kernel
theorem dX8_takesPin_96 : decode cX8_takesPin 96 = .ok (.if_icmp .ne 7, 3) := by decide +kernel
theorem dX8_takesPin_99 : decode cX8_takesPin 99 = .ok (.iconst 3, 1) := by decide +kernel
theorem dX8_takesPin_100 : decode cX8_takesPin 100 = .ok (.goto 5, 3) := by decide +kernel
theorem dX8_takesPin_103 : decode cX8_takesPin 103 = .ok (.bipush 7, 2) := by decide +kernel
theorem dX8_takesPin_105 : decode cX8_takesPin 105 = .ok (.putfield 145, 3) := by decide +kernel
theorem dX8_takesPin_108 : decode cX8_takesPin 108 = .ok (.iload_n 2, 1) := by decide +kernel
theorem dX8_takesPin_109 : decode cX8_takesPin 109 = .ok (.ireturn, 1) := by decide +kernel
theorem dX8_limit_0 : decode cX8_limit 0 = .ok (.aload_n 0, 1) := by decide +kernel
theorem dX8_limit_1 : decode cX8_limit 1 = .ok (.getfield 145, 3) := by decide +kernel
theorem dX8_limit_4 : decode cX8_limit 4 = .ok (.iconst 4, 1) := by decide +kernel
theorem dX8_limit_5 : decode cX8_limit 5 = .ok (.if_icmp .ne 9, 3) := by decide +kernel
theorem dX8_limit_8 : decode cX8_limit 8 = .ok (.sipush 998, 3) := by decide +kernel
theorem dX8_limit_11 : decode cX8_limit 11 = .ok (.goto 20, 3) := by decide +kernel
theorem dX8_limit_14 : decode cX8_limit 14 = .ok (.aload_n 0, 1) := by decide +kernel
theorem dX8_limit_15 : decode cX8_limit 15 = .ok (.getfield 145, 3) := by decide +kernel
theorem dX8_limit_18 : decode cX8_limit 18 = .ok (.iconst 5, 1) := by decide +kernel
theorem dX8_limit_19 : decode cX8_limit 19 = .ok (.if_icmp .ne 8, 3) := by decide +kernel
theorem dX8_limit_22 : decode cX8_limit 22 = .ok (.bipush 32, 2) := by decide +kernel
theorem dX8_limit_24 : decode cX8_limit 24 = .ok (.goto 7, 3) := by decide +kernel
theorem dX8_limit_27 : decode cX8_limit 27 = .ok (.aload_n 0, 1) := by decide +kernel
theorem dX8_limit_28 : decode cX8_limit 28 = .ok (.getfield 139, 3) := by decide +kernel
theorem dX8_limit_31 : decode cX8_limit 31 = .ok (.ireturn, 1) := by decide +kernel
set_option maxRecDepth 20000 in
theorem ggX8_takesDigit_X8_within : GoodIn wsX8_takesDigit wsX8_within := goodIn_r _ [5] (by decide +kernel) (by decide +kernel)
set_option maxRecDepth 20000 in
theorem gX8_takesDigit_X8_within : GoodIn wsX8_takesDigit (va_wsS RX8 48 yX8_within wsX8_within) := goodIn_app (goodIn_of _ (by decide +kernel)) ggX8_takesDigit_X8_within
set_option maxRecDepth 20000 in
theorem ggX8_takesDigit_X8_limit : GoodIn wsX8_takesDigit wsX8_limit := goodIn_r _ [9, 10, 11, 12, 13, 14, 15, 16, 17, 18, 19, 20, 21, 22, 23, 24, 25, 26, 27, 28, 29, 30, 31, 32, 33, 34, 35, 36, 37, 38, 39, 40] (by decide +kernel) (by decide +kernel)
set_option maxRecDepth 20000 in
theorem gX8_takesDigit_X8_limit : GoodIn wsX8_takesDigit (wsV RX8 151 RX8 yX8_limit wsX8_limit) := goodIn_app (goodIn_of _ (by decide +kernel)) ggX8_takesDigit_X8_limit
theorem dX8_takesDigit_0 : decode cX8_takesDigit 0 = .ok (.bipush 10, 2) := by decide +kernel
theorem dX8_takesDigit_2 : decode cX8_takesDigit 2 = .ok (.aload_n 0, 1) := by decide +kernel
theorem dX8_takesDigit_3 : decode cX8_takesDigit 3 = .ok (.getfield 142, 3) := by decide +kernel
theorem dX8_takesDigit_6 : decode cX8_takesDigit 6 = .ok (.imul, 1) := by decide +kernel
theorem dX8_takesDigit_7 : decode cX8_takesDigit 7 = .ok (.iload_n 1, 1) := by decide +kernel
theorem dX8_takesDigit_8 : decode cX8_takesDigit 8 = .ok (.iadd, 1) := by decide +kernel
theorem dX8_takesDigit_9 : decode cX8_takesDigit 9 = .ok (.bipush 48, 2) := by decide +kernel
theorem dX8_takesDigit_11 : decode cX8_takesDigit 11 = .ok (.isub, 1) := by decide +kernel
theorem dX8_takesDigit_12 : decode cX8_takesDigit 12 = .ok (.istore_n 2, 1) := by decide +kernel
theorem dX8_takesDigit_13 : decode cX8_takesDigit 13 = .ok (.iload_n 1, 1) := by decide +kernel
theorem dX8_takesDigit_14 : decode cX8_takesDigit 14 = .ok (.bipush 48, 2) := by decide +kernel
theorem dX8_takesDigit_16 : decode cX8_takesDigit 16 = .ok (.bipush 57, 2) := by decide +kernel
theorem dX8_takesDigit_18 : decode cX8_takesDigit 18 = .ok (.invokestatic 48, 3) := by decide +kernel
theorem dX8_takesDigit_21 : decode cX8_takesDigit 21 = .ok (.ifCond .eq 19, 3) := by decide +kernel
theorem dX8_takesDigit_24 : decode cX8_takesDigit 24 = .ok (.iload_n 2, 1) := by decide +kernel
theorem dX8_takesDigit_25 : decode cX8_takesDigit 25 = .ok (.iconst 1, 1) := by decide +kernel
theorem dX8_takesDigit_26 : decode cX8_takesDigit 26 = .ok (.aload_n 0, 1) := by decide +kernel
theorem dX8_takesDigit_27 : decode cX8_takesDigit 27 = .ok (.invokevirtual 151, 3) := by decide +kernel
theorem dX8_takesDigit_30 : decode cX8_takesDigit 30 = .ok (.invokestatic 48, 3) := by decide +kernel
theorem dX8_takesDigit_33 : decode cX8_takesDigit 33 = .ok (.ifCond .eq 7, 3) := by decide +kernel
theorem dX8_takesDigit_36 : decode cX8_takesDigit 36 = .ok (.iconst 1, 1) := by decide +kernel
theorem dX8_takesDigit_37 : decode cX8_takesDigit 37 = .ok (.goto 4, 3) := by decide +kernel
theorem dX8_takesDigit_40 : decode cX8_takesDigit 40 = .ok (.iconst 0, 1) := by decide +kernel
theorem dX8_takesDigit_41 : decode cX8_takesDigit 41 = .ok (.istore_n 3, 1) := by decide +kernel
theorem dX8_takesDigit_42 : decode cX8_takesDigit 42 = .ok (.aload_n 0, 1) := by decide +kernel
theorem dX8_takesDigit_43 : decode cX8_takesDigit 43 = .ok (.iload_n 3, 1) := by decide +kernel
theorem dX8_takesDigit_44 : decode cX8_takesDigit 44 = .ok (.ifCond .eq 7, 3) := by decide +kernel
theorem dX8_takesDigit_47 : decode cX8_takesDigit 47 = .ok (.iload_n 2, 1) := by decide +kernel
theorem dX8_takesDigit_48 : decode cX8_takesDigit 48 = .ok (.goto 7, 3) := by decide +kernel
theorem dX8_takesDigit_51 : decode cX8_takesDigit 51 = .ok (.aload_n 0, 1) := by decide +kernel
theorem dX8_takesDigit_52 : decode cX8_takesDigit 52 = .ok (.getfield 142, 3) := by decide +kernel
theorem dX8_takesDigit_55 : decode cX8_takesDigit 55 = .ok (.putfield 142, 3) := by decide +kernel
theorem dX8_takesDigit_58 : decode cX8_takesDigit 58 = .ok (.iload_n 3, 1) := by decide +kernel
theorem dX8_takesDigit_59 : decode cX8_takesDigit 59 = .ok (.ireturn, 1) := by decide +kernel
theorem dX8_canEnd_0 : decode cX8_canEnd 0 = .ok (.aload_n 0, 1) := by decide +kernel
theorem dX8_canEnd_1 : decode cX8_canEnd 1 = .ok (.getfield 145, 3) := by decide +kernel
theorem dX8_canEnd_4 : decode cX8_canEnd 4 = .ok (.bipush 7, 2) := by decide +kernel
theorem dX8_canEnd_6 : decode cX8_canEnd 6 = .ok (.if_icmp .eq 27, 3) := by decide +kernel
theorem dX8_canEnd_9 : decode cX8_canEnd 9 = .ok (.aload_n 0, 1) := by decide +kernel
theorem dX8_canEnd_10 : decode cX8_canEnd 10 = .ok (.getfield 145, 3) := by decide +kernel
theorem dX8_canEnd_13 : decode cX8_canEnd 13 = .ok (.iconst 4, 1) := by decide +kernel
theorem dX8_canEnd_14 : decode cX8_canEnd 14 = .ok (.if_icmp .eq 12, 3) := by decide +kernel
theorem dX8_canEnd_17 : decode cX8_canEnd 17 = .ok (.aload_n 0, 1) := by decide +kernel
theorem dX8_canEnd_18 : decode cX8_canEnd 18 = .ok (.getfield 145, 3) := by decide +kernel
theorem dX8_canEnd_21 : decode cX8_canEnd 21 = .ok (.bipush 6, 2) := by decide +kernel
theorem dX8_canEnd_23 : decode cX8_canEnd 23 = .ok (.if_icmp .ne 14, 3) := by decide +kernel
theorem dX8_canEnd_26 : decode cX8_canEnd 26 = .ok (.aload_n 0, 1) := by decide +kernel
theorem dX8_canEnd_27 : decode cX8_canEnd 27 = .ok (.getfield 142, 3) := by decide +kernel
theorem dX8_canEnd_30 : decode cX8_canEnd 30 = .ok (.ifCond .le 7, 3) := by decide +kernel
theorem dX8_canEnd_33 : decode cX8_canEnd 33 = .ok (.iconst 1, 1) := by decide +kernel
theorem dX8_canEnd_34 : decode cX8_canEnd 34 = .ok (.goto 4, 3) := by decide +kernel
theorem dX8_canEnd_37 : decode cX8_canEnd 37 = .ok (.iconst 0, 1) := by decide +kernel
theorem dX8_canEnd_38 : decode cX8_canEnd 38 = .ok (.ireturn, 1) := by decide +kernel
theorem dX8_endItem_0 : decode cX8_endItem 0 = .ok (.bipush 6, 2) := by decide +kernel
theorem dX8_endItem_2 : decode cX8_endItem 2 = .ok (.aload_n 0, 1) := by decide +kernel
theorem dX8_endItem_3 : decode cX8_endItem 3 = .ok (.getfield 155, 3) := by decide +kernel
theorem dX8_endItem_6 : decode cX8_endItem 6 = .ok (.imul, 1) := by decide +kernel
theorem dX8_endItem_7 : decode cX8_endItem 7 = .ok (.istore_n 1, 1) := by decide +kernel
theorem dX8_endItem_8 : decode cX8_endItem 8 = .ok (.aload_n 0, 1) := by decide +kernel
theorem dX8_endItem_9 : decode cX8_endItem 9 = .ok (.getfield 28, 3) := by decide +kernel
theorem dX8_endItem_12 : decode cX8_endItem 12 = .ok (.iload_n 1, 1) := by decide +kernel
theorem dX8_endItem_13 : decode cX8_endItem 13 = .ok (.aload_n 0, 1) := by decide +kernel
theorem dX8_endItem_14 : decode cX8_endItem 14 = .ok (.getfield 130, 3) := by decide +kernel
theorem dX8_endItem_17 : decode cX8_endItem 17 = .ok (.iastore, 1) := by decide +kernel
theorem dX8_endItem_18 : decode cX8_endItem 18 = .ok (.aload_n 0, 1) := by decide +kernel
theorem dX8_endItem_19 : decode cX8_endItem 19 = .ok (.getfield 28, 3) := by decide +kernel
theorem dX8_endItem_22 : decode cX8_endItem 22 = .ok (.iload_n 1, 1) := by decide +kernel
theorem dX8_endItem_23 : decode cX8_endItem 23 = .ok (.iconst 1, 1) := by decide +kernel
theorem dX8_endItem_24 : decode cX8_endItem 24 = .ok (.iadd, 1) := by decide +kernel
theorem dX8_endItem_25 : decode cX8_endItem 25 = .ok (.aload_n 0, 1) := by decide +kernel
theorem dX8_endItem_26 : decode cX8_endItem 26 = .ok (.getfield 148, 3) := by decide +kernel
theorem dX8_endItem_29 : decode cX8_endItem 29 = .ok (.iastore, 1) := by decide +kernel
theorem dX8_endItem_30 : decode cX8_endItem 30 = .ok (.aload_n 0, 1) := by decide +kernel
theorem dX8_endItem_31 : decode cX8_endItem 31 = .ok (.getfield 28, 3) := by decide +kernel
theorem dX8_endItem_34 : decode cX8_endItem 34 = .ok (.iload_n 1, 1) := by decide +kernel
theorem dX8_endItem_35 : decode cX8_endItem 35 = .ok (.iconst 2, 1) := by decide +kernel
theorem dX8_endItem_36 : decode cX8_endItem 36 = .ok (.iadd, 1) := by decide +kernel
theorem dX8_endItem_37 : decode cX8_endItem 37 = .ok (.aload_n 0, 1) := by decide +kernel
theorem dX8_endItem_38 : decode cX8_endItem 38 = .ok (.getfield 133, 3) := by decide +kernel
theorem dX8_endItem_41 : decode cX8_endItem 41 = .ok (.iastore, 1) := by decide +kernel
theorem dX8_endItem_42 : decode cX8_endItem 42 = .ok (.aload_n 0, 1) := by decide +kernel
theorem dX8_endItem_43 : decode cX8_endItem 43 = .ok (.getfield 28, 3) := by decide +kernel
theorem dX8_endItem_46 : decode cX8_endItem 46 = .ok (.iload_n 1, 1) := by decide +kernel
theorem dX8_endItem_47 : decode cX8_endItem 47 = .ok (.iconst 3, 1) := by decide +kernel
theorem dX8_endItem_48 : decode cX8_endItem 48 = .ok (.iadd, 1) := by decide +kernel
theorem dX8_endItem_49 : decode cX8_endItem 49 = .ok (.aload_n 0, 1) := by decide +kernel
theorem dX8_endItem_50 : decode cX8_endItem 50 = .ok (.getfield 145, 3) := by decide +kernel
theorem dX8_endItem_53 : decode cX8_endItem 53 = .ok (.iconst 4, 1) := by decide +kernel
theorem dX8_endItem_54 : decode cX8_endItem 54 = .ok (.if_icmp .ne 10, 3) := by decide +kernel
theorem dX8_endItem_57 : decode cX8_endItem 57 = .ok (.aload_n 0, 1) := by decide +kernel
theorem dX8_endItem_58 : decode cX8_endItem 58 = .ok (.getfield 142, 3) := by decide +kernel
theorem dX8_endItem_61 : decode cX8_endItem 61 = .ok (.goto 7, 3) := by decide +kernel
theorem dX8_endItem_64 : decode cX8_endItem 64 = .ok (.aload_n 0, 1) := by decide +kernel
theorem dX8_endItem_65 : decode cX8_endItem 65 = .ok (.getfield 136, 3) := by decide +kernel
theorem dX8_endItem_68 : decode cX8_endItem 68 = .ok (.iastore, 1) := by decide +kernel
theorem dX8_endItem_69 : decode cX8_endItem 69 = .ok (.aload_n 0, 1) := by decide +kernel
theorem dX8_endItem_70 : decode cX8_endItem 70 = .ok (.getfield 28, 3) := by decide +kernel
theorem dX8_endItem_73 : decode cX8_endItem 73 = .ok (.iload_n 1, 1) := by decide +kernel
theorem dX8_endItem_74 : decode cX8_endItem 74 = .ok (.iconst 4, 1) := by decide +kernel
theorem dX8_endItem_75 : decode cX8_endItem 75 = .ok (.iadd, 1) := by decide +kernel
theorem dX8_endItem_76 : decode cX8_endItem 76 = .ok (.aload_n 0, 1) := by decide +kernel
theorem dX8_endItem_77 : decode cX8_endItem 77 = .ok (.getfield 145, 3) := by decide +kernel
theorem dX8_endItem_80 : decode cX8_endItem 80 = .ok (.bipush 6, 2) := by decide +kernel
theorem dX8_endItem_82 : decode cX8_endItem 82 = .ok (.if_icmp .ne 10, 3) := by decide +kernel
theorem dX8_endItem_85 : decode cX8_endItem 85 = .ok (.aload_n 0, 1) := by decide +kernel
theorem dX8_endItem_86 : decode cX8_endItem 86 = .ok (.getfield 139, 3) := by decide +kernel
theorem dX8_endItem_89 : decode cX8_endItem 89 = .ok (.goto 4, 3) := by decide +kernel
theorem dX8_endItem_92 : decode cX8_endItem 92 = .ok (.iconst 1, 1) := by decide +kernel
theorem dX8_endItem_93 : decode cX8_endItem 93 = .ok (.iastore, 1) := by decide +kernel
theorem dX8_endItem_94 : decode cX8_endItem 94 = .ok (.aload_n 0, 1) := by decide +kernel
theorem dX8_endItem_95 : decode cX8_endItem 95 = .ok (.getfield 28, 3) := by decide +kernel
theorem dX8_endItem_98 : decode cX8_endItem 98 = .ok (.iload_n 1, 1) := by decide +kernel
theorem dX8_endItem_99 : decode cX8_endItem 99 = .ok (.iconst 5, 1) := by decide +kernel
theorem dX8_endItem_100 : decode cX8_endItem 100 = .ok (.iadd, 1) := by decide +kernel
theorem dX8_endItem_101 : decode cX8_endItem 101 = .ok (.aload_n 0, 1) := by decide +kernel
theorem dX8_endItem_102 : decode cX8_endItem 102 = .ok (.getfield 145, 3) := by decide +kernel
theorem dX8_endItem_105 : decode cX8_endItem 105 = .ok (.bipush 6, 2) := by decide +kernel
theorem dX8_endItem_107 : decode cX8_endItem 107 = .ok (.if_icmp .ne 10, 3) := by decide +kernel
theorem dX8_endItem_110 : decode cX8_endItem 110 = .ok (.aload_n 0, 1) := by decide +kernel
theorem dX8_endItem_111 : decode cX8_endItem 111 = .ok (.getfield 142, 3) := by decide +kernel
theorem dX8_endItem_114 : decode cX8_endItem 114 = .ok (.goto 4, 3) := by decide +kernel
theorem dX8_endItem_117 : decode cX8_endItem 117 = .ok (.iconst 1, 1) := by decide +kernel
theorem dX8_endItem_118 : decode cX8_endItem 118 = .ok (.iastore, 1) := by decide +kernel
theorem dX8_endItem_119 : decode cX8_endItem 119 = .ok (.aload_n 0, 1) := by decide +kernel
theorem dX8_endItem_120 : decode cX8_endItem 120 = .ok (.dup, 1) := by decide +kernel
theorem dX8_endItem_121 : decode cX8_endItem 121 = .ok (.getfield 155, 3) := by decide +kernel
theorem dX8_endItem_124 : decode cX8_endItem 124 = .ok (.iconst 1, 1) := by decide +kernel
theorem dX8_endItem_125 : decode cX8_endItem 125 = .ok (.iadd, 1) := by decide +kernel
theorem dX8_endItem_126 : decode cX8_endItem 126 = .ok (.putfield 155, 3) := by decide +kernel
theorem dX8_endItem_129 : decode cX8_endItem 129 = .ok (.aload_n 0, 1) := by decide +kernel
theorem dX8_endItem_130 : decode cX8_endItem 130 = .ok (.iconst 0, 1) := by decide +kernel
theorem dX8_endItem_131 : decode cX8_endItem 131 = .ok (.putfield 145, 3) := by decide +kernel
theorem dX8_endItem_134 : decode cX8_endItem 134 = .ok (.return_, 1) := by decide +kernel
theorem dX8_goes_0 : decode cX8_goes 0 = .ok (.aload_n 0, 1) := by decide +kernel
theorem dX8_goes_1 : decode cX8_goes 1 = .ok (.iload_n 1, 1) := by decide +kernel
theorem dX8_goes_2 : decode cX8_goes 2 = .ok (.ifCond .eq 7, 3) := by decide +kernel
theorem dX8_goes_5 : decode cX8_goes 5 = .ok (.iload_n 2, 1) := by decide +kernel
theorem dX8_goes_6 : decode cX8_goes 6 = .ok (.goto 7, 3) := by decide +kernel
theorem dX8_goes_9 : decode cX8_goes 9 = .ok (.aload_n 0, 1) := by decide +kernel
theorem dX8_goes_10 : decode cX8_goes 10 = .ok (.getfield 145, 3) := by decide +kernel
theorem dX8_goes_13 : decode cX8_goes 13 = .ok (.putfield 145, 3) := by decide +kernel
theorem dX8_goes_16 : decode cX8_goes 16 = .ok (.aload_n 0, 1) := by decide +kernel
theorem dX8_goes_17 : decode cX8_goes 17 = .ok (.iload_n 1, 1) := by decide +kernel
theorem dX8_goes_18 : decode cX8_goes 18 = .ok (.ifCond .eq 7, 3) := by decide +kernel
theorem dX8_goes_21 : decode cX8_goes 21 = .ok (.iconst 0, 1) := by decide +kernel
theorem dX8_goes_22 : decode cX8_goes 22 = .ok (.goto 7, 3) := by decide +kernel
theorem dX8_goes_25 : decode cX8_goes 25 = .ok (.aload_n 0, 1) := by decide +kernel
theorem dX8_goes_26 : decode cX8_goes 26 = .ok (.getfield 142, 3) := by decide +kernel
theorem dX8_goes_29 : decode cX8_goes 29 = .ok (.putfield 142, 3) := by decide +kernel
theorem dX8_goes_32 : decode cX8_goes 32 = .ok (.iload_n 1, 1) := by decide +kernel
theorem dX8_goes_33 : decode cX8_goes 33 = .ok (.ireturn, 1) := by decide +kernel
set_option maxRecDepth 20000 in
theorem ggX8_takes_X8_canEnd : GoodIn wsX8_takes wsX8_canEnd := goodIn_r _ [9, 1, 2, 42, 43, 44, 45, 46, 47, 48, 49, 50, 51, 52, 53, 54, 55, 56, 57, 58, 59, 60, 61, 62, 63, 64, 65, 66, 67, 68, 69, 70] (by decide +kernel) (by decide +kernel)
set_option maxRecDepth 20000 in
theorem gX8_takes_X8_canEnd : GoodIn wsX8_takes (wsV RX8 158 RX8 yX8_canEnd wsX8_canEnd) := goodIn_app (goodIn_of _ (by decide +kernel)) ggX8_takes_X8_canEnd
set_option maxRecDepth 20000 in
theorem ggX8_takes_X8_endItem : GoodIn wsX8_takes wsX8_endItem := goodIn_r _ [13, 14, 15, 16, 17, 18, 1, 2, 3, 4, 42, 43, 44, 45, 46, 47, 48, 49, 50, 51, 52, 53, 54, 55, 56, 57, 58, 59, 60, 61, 62, 63, 64, 65, 66, 67, 68, 69, 70] (by decide +kernel) (by decide +kernel)
set_option maxRecDepth 20000 in
theorem gX8_takes_X8_endItem : GoodIn wsX8_takes (wsV RX8 162 RX8 yX8_endItem wsX8_endItem) := goodIn_app (goodIn_of _ (by decide +kernel)) ggX8_takes_X8_endItem
set_option maxRecDepth 20000 in
theorem ggX8_takes_X8_takesSign : GoodIn wsX8_takes wsX8_takesSign := goodIn_r _ [22, 16, 18, 3, 4, 2, 1, 42, 43, 44, 45, 46, 47, 48, 49, 50, 51, 52, 53, 54, 55, 56, 57, 58, 59, 60, 61, 62, 63, 64, 65, 66, 67, 68, 69, 70] (by decide +kernel) (by decide +kernel)
set_option maxRecDepth 20000 in
theorem gX8_takes_X8_takesSign : GoodIn wsX8_takes (wsV RX8 165 RX8 yX8_takesSign wsX8_takesSign) := goodIn_app (goodIn_of _ (by decide +kernel)) ggX8_takes_X8_takesSign
set_option maxRecDepth 20000 in
theorem ggX8_takes_X8_takesPin : GoodIn wsX8_takes wsX8_takesPin := goodIn_r _ [26, 1, 17, 16, 18, 27, 28, 8, 29, 42, 43, 44, 45, 46, 47, 48, 49, 50, 51, 52, 53, 54, 55, 56, 57, 58, 59, 60, 61, 62, 63, 64, 65, 66, 67, 68, 69, 70] (by decide +kernel) (by decide +kernel)
set_option maxRecDepth 20000 in
theorem gX8_takes_X8_takesPin : GoodIn wsX8_takes (wsV RX8 168 RX8 yX8_takesPin wsX8_takesPin) := goodIn_app (goodIn_of _ (by decide +kernel)) ggX8_takes_X8_takesPin
set_option maxRecDepth 20000 in
theorem ggX8_takes_X8_goes : GoodIn wsX8_takes wsX8_goes := goodIn_r _ [33, 1, 2, 42, 43, 44, 45, 46, 47, 48, 49, 50, 51, 52, 53, 54, 55, 56, 57, 58, 59, 60, 61, 62, 63, 64, 65, 66, 67, 68, 69, 70] (by decide +kernel) (by decide +kernel)
set_option maxRecDepth 20000 in
theorem gX8_takes_X8_goes : GoodIn wsX8_takes (wsV RX8 171 RX8 yX8_goes wsX8_goes) := goodIn_app (goodIn_of _ (by decide +kernel)) ggX8_takes_X8_goes
set_option maxRecDepth 20000 in
theorem ggX8_takes_X8_takesDigit : GoodIn wsX8_takes wsX8_takesDigit := goodIn_r _ [37, 2, 27, 28, 8, 29, 38, 39, 40, 41, 1, 4, 42, 43, 44, 45, 46, 47, 48, 49, 50, 51, 52, 53, 54, 55, 56, 57, 58, 59, 60, 61, 62, 63, 64, 65, 66, 67, 68, 69, 70] (by decide +kernel) (by decide +kernel)
set_option maxRecDepth 20000 in
theorem gX8_takes_X8_takesDigit : GoodIn wsX8_takes (wsV RX8 175 RX8 yX8_takesDigit wsX8_takesDigit) := goodIn_app (goodIn_of _ (by decide +kernel)) ggX8_takes_X8_takesDigit
theorem dX8_takes_0 : decode cX8_takes 0 = .ok (.iload_n 1, 1) := by decide +kernel
theorem dX8_takes_1 : decode cX8_takes 1 = .ok (.bipush 59, 2) := by decide +kernel
theorem dX8_takes_3 : decode cX8_takes 3 = .ok (.if_icmp .ne 16, 3) := by decide +kernel
theorem dX8_takes_6 : decode cX8_takes 6 = .ok (.aload_n 0, 1) := by decide +kernel
theorem dX8_takes_7 : decode cX8_takes 7 = .ok (.invokevirtual 158, 3) := by decide +kernel
theorem dX8_takes_10 : decode cX8_takes 10 = .ok (.ifCond .eq 9, 3) := by decide +kernel
theorem dX8_takes_13 : decode cX8_takes 13 = .ok (.aload_n 0, 1) := by decide +kernel
theorem dX8_takes_14 : decode cX8_takes 14 = .ok (.invokevirtual 162, 3) := by decide +kernel
theorem dX8_takes_17 : decode cX8_takes 17 = .ok (.iconst 1, 1) := by decide +kernel
theorem dX8_takes_18 : decode cX8_takes 18 = .ok (.ireturn, 1) := by decide +kernel
theorem dX8_takes_19 : decode cX8_takes 19 = .ok (.aload_n 0, 1) := by decide +kernel
theorem dX8_takes_20 : decode cX8_takes 20 = .ok (.getfield 145, 3) := by decide +kernel
theorem dX8_takes_23 : decode cX8_takes 23 = .ok (.tableswitch 173 0 6 #[41, 47, 47, 53, 70, 118, 167], 41) := by decide +kernel
theorem dX8_takes_64 : decode cX8_takes 64 = .ok (.aload_n 0, 1) := by decide +kernel
theorem dX8_takes_65 : decode cX8_takes 65 = .ok (.iload_n 1, 1) := by decide +kernel
theorem dX8_takes_66 : decode cX8_takes 66 = .ok (.invokevirtual 165, 3) := by decide +kernel
theorem dX8_takes_69 : decode cX8_takes 69 = .ok (.ireturn, 1) := by decide +kernel
theorem dX8_takes_70 : decode cX8_takes 70 = .ok (.aload_n 0, 1) := by decide +kernel
theorem dX8_takes_71 : decode cX8_takes 71 = .ok (.iload_n 1, 1) := by decide +kernel
theorem dX8_takes_72 : decode cX8_takes 72 = .ok (.invokevirtual 168, 3) := by decide +kernel
theorem dX8_takes_75 : decode cX8_takes 75 = .ok (.ireturn, 1) := by decide +kernel
theorem dX8_takes_76 : decode cX8_takes 76 = .ok (.aload_n 0, 1) := by decide +kernel
theorem dX8_takes_77 : decode cX8_takes 77 = .ok (.iload_n 1, 1) := by decide +kernel
theorem dX8_takes_78 : decode cX8_takes 78 = .ok (.bipush 64, 2) := by decide +kernel
theorem dX8_takes_80 : decode cX8_takes 80 = .ok (.if_icmp .ne 7, 3) := by decide +kernel
theorem dX8_takes_83 : decode cX8_takes 83 = .ok (.iconst 1, 1) := by decide +kernel
theorem dX8_takes_84 : decode cX8_takes 84 = .ok (.goto 4, 3) := by decide +kernel
theorem dX8_takes_87 : decode cX8_takes 87 = .ok (.iconst 0, 1) := by decide +kernel
theorem dX8_takes_88 : decode cX8_takes 88 = .ok (.iconst 4, 1) := by decide +kernel
theorem dX8_takes_89 : decode cX8_takes 89 = .ok (.invokevirtual 171, 3) := by decide +kernel
theorem dX8_takes_92 : decode cX8_takes 92 = .ok (.ireturn, 1) := by decide +kernel
theorem dX8_takes_93 : decode cX8_takes 93 = .ok (.aload_n 0, 1) := by decide +kernel
theorem dX8_takes_94 : decode cX8_takes 94 = .ok (.aload_n 0, 1) := by decide +kernel
theorem dX8_takes_95 : decode cX8_takes 95 = .ok (.getfield 142, 3) := by decide +kernel
theorem dX8_takes_98 : decode cX8_takes 98 = .ok (.putfield 136, 3) := by decide +kernel
theorem dX8_takes_101 : decode cX8_takes 101 = .ok (.aload_n 0, 1) := by decide +kernel
theorem dX8_takes_102 : decode cX8_takes 102 = .ok (.iload_n 1, 1) := by decide +kernel
theorem dX8_takes_103 : decode cX8_takes 103 = .ok (.bipush 47, 2) := by decide +kernel
theorem dX8_takes_105 : decode cX8_takes 105 = .ok (.if_icmp .ne 14, 3) := by decide +kernel
theorem dX8_takes_108 : decode cX8_takes 108 = .ok (.aload_n 0, 1) := by decide +kernel
theorem dX8_takes_109 : decode cX8_takes 109 = .ok (.getfield 142, 3) := by decide +kernel
theorem dX8_takes_112 : decode cX8_takes 112 = .ok (.ifCond .le 7, 3) := by decide +kernel
theorem dX8_takes_115 : decode cX8_takes 115 = .ok (.iconst 1, 1) := by decide +kernel
theorem dX8_takes_116 : decode cX8_takes 116 = .ok (.goto 4, 3) := by decide +kernel
theorem dX8_takes_119 : decode cX8_takes 119 = .ok (.iconst 0, 1) := by decide +kernel
theorem dX8_takes_120 : decode cX8_takes 120 = .ok (.iconst 5, 1) := by decide +kernel
theorem dX8_takes_121 : decode cX8_takes 121 = .ok (.invokevirtual 171, 3) := by decide +kernel
theorem dX8_takes_124 : decode cX8_takes 124 = .ok (.ifCond .ne 11, 3) := by decide +kernel
theorem dX8_takes_127 : decode cX8_takes 127 = .ok (.aload_n 0, 1) := by decide +kernel
theorem dX8_takes_128 : decode cX8_takes 128 = .ok (.iload_n 1, 1) := by decide +kernel
theorem dX8_takes_129 : decode cX8_takes 129 = .ok (.invokevirtual 175, 3) := by decide +kernel
theorem dX8_takes_132 : decode cX8_takes 132 = .ok (.ifCond .eq 7, 3) := by decide +kernel
theorem dX8_takes_135 : decode cX8_takes 135 = .ok (.iconst 1, 1) := by decide +kernel
theorem dX8_takes_136 : decode cX8_takes 136 = .ok (.goto 4, 3) := by decide +kernel
theorem dX8_takes_139 : decode cX8_takes 139 = .ok (.iconst 0, 1) := by decide +kernel
theorem dX8_takes_140 : decode cX8_takes 140 = .ok (.ireturn, 1) := by decide +kernel
theorem dX8_takes_141 : decode cX8_takes 141 = .ok (.aload_n 0, 1) := by decide +kernel
theorem dX8_takes_142 : decode cX8_takes 142 = .ok (.aload_n 0, 1) := by decide +kernel
theorem dX8_takes_143 : decode cX8_takes 143 = .ok (.getfield 142, 3) := by decide +kernel
theorem dX8_takes_146 : decode cX8_takes 146 = .ok (.putfield 139, 3) := by decide +kernel
theorem dX8_takes_149 : decode cX8_takes 149 = .ok (.aload_n 0, 1) := by decide +kernel
theorem dX8_takes_150 : decode cX8_takes 150 = .ok (.iload_n 1, 1) := by decide +kernel
theorem dX8_takes_151 : decode cX8_takes 151 = .ok (.bipush 58, 2) := by decide +kernel
theorem dX8_takes_153 : decode cX8_takes 153 = .ok (.if_icmp .ne 14, 3) := by decide +kernel
theorem dX8_takes_156 : decode cX8_takes 156 = .ok (.aload_n 0, 1) := by decide +kernel
theorem dX8_takes_157 : decode cX8_takes 157 = .ok (.getfield 142, 3) := by decide +kernel
theorem dX8_takes_160 : decode cX8_takes 160 = .ok (.ifCond .le 7, 3) := by decide +kernel
theorem dX8_takes_163 : decode cX8_takes 163 = .ok (.iconst 1, 1) := by decide +kernel
theorem dX8_takes_164 : decode cX8_takes 164 = .ok (.goto 4, 3) := by decide +kernel
theorem dX8_takes_167 : decode cX8_takes 167 = .ok (.iconst 0, 1) := by decide +kernel
theorem dX8_takes_168 : decode cX8_takes 168 = .ok (.bipush 6, 2) := by decide +kernel
theorem dX8_takes_170 : decode cX8_takes 170 = .ok (.invokevirtual 171, 3) := by decide +kernel
theorem dX8_takes_173 : decode cX8_takes 173 = .ok (.ifCond .ne 11, 3) := by decide +kernel
theorem dX8_takes_176 : decode cX8_takes 176 = .ok (.aload_n 0, 1) := by decide +kernel
theorem dX8_takes_177 : decode cX8_takes 177 = .ok (.iload_n 1, 1) := by decide +kernel
theorem dX8_takes_178 : decode cX8_takes 178 = .ok (.invokevirtual 175, 3) := by decide +kernel
theorem dX8_takes_181 : decode cX8_takes 181 = .ok (.ifCond .eq 7, 3) := by decide +kernel
theorem dX8_takes_184 : decode cX8_takes 184 = .ok (.iconst 1, 1) := by decide +kernel
theorem dX8_takes_185 : decode cX8_takes 185 = .ok (.goto 4, 3) := by decide +kernel
theorem dX8_takes_188 : decode cX8_takes 188 = .ok (.iconst 0, 1) := by decide +kernel
theorem dX8_takes_189 : decode cX8_takes 189 = .ok (.ireturn, 1) := by decide +kernel
theorem dX8_takes_190 : decode cX8_takes 190 = .ok (.aload_n 0, 1) := by decide +kernel
theorem dX8_takes_191 : decode cX8_takes 191 = .ok (.iload_n 1, 1) := by decide +kernel
theorem dX8_takes_192 : decode cX8_takes 192 = .ok (.invokevirtual 175, 3) := by decide +kernel
theorem dX8_takes_195 : decode cX8_takes 195 = .ok (.ireturn, 1) := by decide +kernel
theorem dX8_takes_196 : decode cX8_takes 196 = .ok (.iconst 0, 1) := by decide +kernel
theorem dX8_takes_197 : decode cX8_takes 197 = .ok (.ireturn, 1) := by decide +kernel
set_option maxRecDepth 20000 in
theorem ggX8_readText_X8_takes : GoodIn wsX8_readText wsX8_takes := goodIn_r _ [9, 1, 10, 11, 12, 13, 14, 15, 8, 16, 17, 18, 19, 20, 2, 21, 22, 23, 24, 25, 26, 27, 28, 29, 30, 31, 32, 33, 34, 35, 36, 37, 38, 39, 40, 41, 42, 43, 44, 45, 46, 47, 48, 49, 50, 51, 52, 53, 54, 55, 56, 57, 58, 59, 60, 61, 62, 63, 64, 65, 66, 67, 68, 69, 70, 71, 72, 73, 74, 75, 76] (by decide +kernel) (by decide +kernel)
set_option maxRecDepth 20000 in
theorem gX8_readText_X8_takes : GoodIn wsX8_readText (wsV RX8 178 RX8 yX8_takes wsX8_takes) := goodIn_app (goodIn_of _ (by decide +kernel)) ggX8_readText_X8_takes
theorem dX8_readText_0 : decode cX8_readText 0 = .ok (.aload_n 0, 1) := by decide +kernel
theorem dX8_readText_1 : decode cX8_readText 1 = .ok (.iconst 0, 1) := by decide +kernel
theorem dX8_readText_2 : decode cX8_readText 2 = .ok (.putfield 145, 3) := by decide +kernel
theorem dX8_readText_5 : decode cX8_readText 5 = .ok (.aload_n 0, 1) := by decide +kernel
theorem dX8_readText_6 : decode cX8_readText 6 = .ok (.iconst 0, 1) := by decide +kernel
theorem dX8_readText_7 : decode cX8_readText 7 = .ok (.putfield 155, 3) := by decide +kernel
theorem dX8_readText_10 : decode cX8_readText 10 = .ok (.iconst 0, 1) := by decide +kernel
theorem dX8_readText_11 : decode cX8_readText 11 = .ok (.istore_n 1, 1) := by decide +kernel
theorem dX8_readText_12 : decode cX8_readText 12 = .ok (.iload_n 1, 1) := by decide +kernel
theorem dX8_readText_13 : decode cX8_readText 13 = .ok (.aload_n 0, 1) := by decide +kernel
theorem dX8_readText_14 : decode cX8_readText 14 = .ok (.getfield 127, 3) := by decide +kernel
theorem dX8_readText_17 : decode cX8_readText 17 = .ok (.if_icmp .ge 22, 3) := by decide +kernel
theorem dX8_readText_20 : decode cX8_readText 20 = .ok (.aload_n 0, 1) := by decide +kernel
theorem dX8_readText_21 : decode cX8_readText 21 = .ok (.aload_n 0, 1) := by decide +kernel
theorem dX8_readText_22 : decode cX8_readText 22 = .ok (.getfield 19, 3) := by decide +kernel
theorem dX8_readText_25 : decode cX8_readText 25 = .ok (.iload_n 1, 1) := by decide +kernel
theorem dX8_readText_26 : decode cX8_readText 26 = .ok (.iaload, 1) := by decide +kernel
theorem dX8_readText_27 : decode cX8_readText 27 = .ok (.invokevirtual 178, 3) := by decide +kernel
theorem dX8_readText_30 : decode cX8_readText 30 = .ok (.ifCond .eq 9, 3) := by decide +kernel
theorem dX8_readText_33 : decode cX8_readText 33 = .ok (.iinc 1 1, 3) := by decide +kernel
theorem dX8_readText_36 : decode cX8_readText 36 = .ok (.goto (-24), 3) := by decide +kernel
theorem dX8_readText_39 : decode cX8_readText 39 = .ok (.iload_n 1, 1) := by decide +kernel
theorem dX8_readText_40 : decode cX8_readText 40 = .ok (.ireturn, 1) := by decide +kernel
set_option maxRecDepth 20000 in
theorem ggX8_firstError_X8_readText : GoodIn wsX8_firstError wsX8_readText := goodIn_r _ [6, 7, 8, 9, 10, 11, 12, 13, 5, 14, 15, 16, 17, 18, 19, 20, 21, 22, 23, 24, 25, 26, 27, 28, 29, 30, 31, 32, 33, 34, 35, 36, 37, 38, 39, 40, 41, 42, 43, 44, 45, 46, 47, 48, 49, 50, 51, 52, 53, 54, 55, 56, 57, 58, 59, 60, 61, 62, 63, 64, 65, 66, 67, 68, 69, 70, 71, 72, 73, 74, 75, 76, 77, 78, 79, 80, 81] (by decide +kernel) (by decide +kernel)
set_option maxRecDepth 20000 in
theorem gX8_firstError_X8_readText : GoodIn wsX8_firstError (wsV RX8 181 RX8 yX8_readText wsX8_readText) := goodIn_app (goodIn_of _ (by decide +kernel)) ggX8_firstError_X8_readText
theorem dX8_firstError_0 : decode cX8_firstError 0 = .ok (.aload_n 0, 1) := by decide +kernel
theorem dX8_firstError_1 : decode cX8_firstError 1 = .ok (.iconst 0, 1) := by decide +kernel
theorem dX8_firstError_2 : decode cX8_firstError 2 = .ok (.putfield 44, 3) := by decide +kernel
theorem dX8_firstError_5 : decode cX8_firstError 5 = .ok (.aload_n 0, 1) := by decide +kernel
theorem dX8_firstError_6 : decode cX8_firstError 6 = .ok (.invokevirtual 181, 3) := by decide +kernel
theorem dX8_firstError_9 : decode cX8_firstError 9 = .ok (.ireturn, 1) := by decide +kernel
theorem dX8_canLoad_0 : decode cX8_canLoad 0 = .ok (.iconst 0, 1) := by decide +kernel
theorem dX8_canLoad_1 : decode cX8_canLoad 1 = .ok (.istore_n 1, 1) := by decide +kernel
theorem dX8_canLoad_2 : decode cX8_canLoad 2 = .ok (.iconst 1, 1) := by decide +kernel
theorem dX8_canLoad_3 : decode cX8_canLoad 3 = .ok (.istore_n 2, 1) := by decide +kernel
theorem dX8_canLoad_4 : decode cX8_canLoad 4 = .ok (.iconst 0, 1) := by decide +kernel
theorem dX8_canLoad_5 : decode cX8_canLoad 5 = .ok (.istore_n 3, 1) := by decide +kernel
theorem dX8_canLoad_6 : decode cX8_canLoad 6 = .ok (.iload_n 3, 1) := by decide +kernel
theorem dX8_canLoad_7 : decode cX8_canLoad 7 = .ok (.aload_n 0, 1) := by decide +kernel
theorem dX8_canLoad_8 : decode cX8_canLoad 8 = .ok (.getfield 155, 3) := by decide +kernel
theorem dX8_canLoad_11 : decode cX8_canLoad 11 = .ok (.if_icmp .ge 90, 3) := by decide +kernel
theorem dX8_canLoad_14 : decode cX8_canLoad 14 = .ok (.aload_n 0, 1) := by decide +kernel
theorem dX8_canLoad_15 : decode cX8_canLoad 15 = .ok (.getfield 28, 3) := by decide +kernel
theorem dX8_canLoad_18 : decode cX8_canLoad 18 = .ok (.bipush 6, 2) := by decide +kernel
theorem dX8_canLoad_20 : decode cX8_canLoad 20 = .ok (.iload_n 3, 1) := by decide +kernel
theorem dX8_canLoad_21 : decode cX8_canLoad 21 = .ok (.imul, 1) := by decide +kernel
theorem dX8_canLoad_22 : decode cX8_canLoad 22 = .ok (.iaload, 1) := by decide +kernel
theorem dX8_canLoad_23 : decode cX8_canLoad 23 = .ok (.bipush 99, 2) := by decide +kernel
theorem dX8_canLoad_25 : decode cX8_canLoad 25 = .ok (.if_icmp .eq 17, 3) := by decide +kernel
theorem dX8_canLoad_28 : decode cX8_canLoad 28 = .ok (.aload_n 0, 1) := by decide +kernel
theorem dX8_canLoad_29 : decode cX8_canLoad 29 = .ok (.getfield 28, 3) := by decide +kernel
theorem dX8_canLoad_32 : decode cX8_canLoad 32 = .ok (.bipush 6, 2) := by decide +kernel
theorem dX8_canLoad_34 : decode cX8_canLoad 34 = .ok (.iload_n 3, 1) := by decide +kernel
theorem dX8_canLoad_35 : decode cX8_canLoad 35 = .ok (.imul, 1) := by decide +kernel
theorem dX8_canLoad_36 : decode cX8_canLoad 36 = .ok (.iaload, 1) := by decide +kernel
theorem dX8_canLoad_37 : decode cX8_canLoad 37 = .ok (.bipush 115, 2) := by decide +kernel
theorem dX8_canLoad_39 : decode cX8_canLoad 39 = .ok (.if_icmp .ne 7, 3) := by decide +kernel
theorem dX8_canLoad_42 : decode cX8_canLoad 42 = .ok (.iconst 1, 1) := by decide +kernel
theorem dX8_canLoad_43 : decode cX8_canLoad 43 = .ok (.goto 4, 3) := by decide +kernel
theorem dX8_canLoad_46 : decode cX8_canLoad 46 = .ok (.iconst 0, 1) := by decide +kernel
theorem dX8_canLoad_47 : decode cX8_canLoad 47 = .ok (.istore 4, 2) := by decide +kernel
theorem dX8_canLoad_49 : decode cX8_canLoad 49 = .ok (.iload_n 1, 1) := by decide +kernel
theorem dX8_canLoad_50 : decode cX8_canLoad 50 = .ok (.iload 4, 2) := by decide +kernel
theorem dX8_canLoad_52 : decode cX8_canLoad 52 = .ok (.ifCond .eq 7, 3) := by decide +kernel
theorem dX8_canLoad_55 : decode cX8_canLoad 55 = .ok (.iconst 1, 1) := by decide +kernel
theorem dX8_canLoad_56 : decode cX8_canLoad 56 = .ok (.goto 4, 3) := by decide +kernel
theorem dX8_canLoad_59 : decode cX8_canLoad 59 = .ok (.iconst 0, 1) := by decide +kernel
theorem dX8_canLoad_60 : decode cX8_canLoad 60 = .ok (.iadd, 1) := by decide +kernel
theorem dX8_canLoad_61 : decode cX8_canLoad 61 = .ok (.istore_n 1, 1) := by decide +kernel
theorem dX8_canLoad_62 : decode cX8_canLoad 62 = .ok (.iload_n 2, 1) := by decide +kernel
theorem dX8_canLoad_63 : decode cX8_canLoad 63 = .ok (.ifCond .eq 30, 3) := by decide +kernel
theorem dX8_canLoad_66 : decode cX8_canLoad 66 = .ok (.iload 4, 2) := by decide +kernel
theorem dX8_canLoad_68 : decode cX8_canLoad 68 = .ok (.ifCond .eq 21, 3) := by decide +kernel
theorem dX8_canLoad_71 : decode cX8_canLoad 71 = .ok (.aload_n 0, 1) := by decide +kernel
theorem dX8_canLoad_72 : decode cX8_canLoad 72 = .ok (.getfield 28, 3) := by decide +kernel
theorem dX8_canLoad_75 : decode cX8_canLoad 75 = .ok (.bipush 6, 2) := by decide +kernel
theorem dX8_canLoad_77 : decode cX8_canLoad 77 = .ok (.iload_n 3, 1) := by decide +kernel
theorem dX8_canLoad_78 : decode cX8_canLoad 78 = .ok (.imul, 1) := by decide +kernel
theorem dX8_canLoad_79 : decode cX8_canLoad 79 = .ok (.iconst 3, 1) := by decide +kernel
theorem dX8_canLoad_80 : decode cX8_canLoad 80 = .ok (.iadd, 1) := by decide +kernel
theorem dX8_canLoad_81 : decode cX8_canLoad 81 = .ok (.iaload, 1) := by decide +kernel
theorem dX8_canLoad_82 : decode cX8_canLoad 82 = .ok (.aload_n 0, 1) := by decide +kernel
theorem dX8_canLoad_83 : decode cX8_canLoad 83 = .ok (.getfield 52, 3) := by decide +kernel
theorem dX8_canLoad_86 : decode cX8_canLoad 86 = .ok (.if_icmp .ge 7, 3) := by decide +kernel
theorem dX8_canLoad_89 : decode cX8_canLoad 89 = .ok (.iconst 1, 1) := by decide +kernel
theorem dX8_canLoad_90 : decode cX8_canLoad 90 = .ok (.goto 4, 3) := by decide +kernel
theorem dX8_canLoad_93 : decode cX8_canLoad 93 = .ok (.iconst 0, 1) := by decide +kernel
theorem dX8_canLoad_94 : decode cX8_canLoad 94 = .ok (.istore_n 2, 1) := by decide +kernel
theorem dX8_canLoad_95 : decode cX8_canLoad 95 = .ok (.iinc 3 1, 3) := by decide +kernel
theorem dX8_canLoad_98 : decode cX8_canLoad 98 = .ok (.goto (-92), 3) := by decide +kernel
theorem dX8_canLoad_101 : decode cX8_canLoad 101 = .ok (.iload_n 2, 1) := by decide +kernel
theorem dX8_canLoad_102 : decode cX8_canLoad 102 = .ok (.ifCond .eq 18, 3) := by decide +kernel
theorem dX8_canLoad_105 : decode cX8_canLoad 105 = .ok (.aload_n 0, 1) := by decide +kernel
theorem dX8_canLoad_106 : decode cX8_canLoad 106 = .ok (.getfield 64, 3) := by decide +kernel
theorem dX8_canLoad_109 : decode cX8_canLoad 109 = .ok (.iload_n 1, 1) := by decide +kernel
theorem dX8_canLoad_110 : decode cX8_canLoad 110 = .ok (.iadd, 1) := by decide +kernel
theorem dX8_canLoad_111 : decode cX8_canLoad 111 = .ok (.bipush 10, 2) := by decide +kernel
theorem dX8_canLoad_113 : decode cX8_canLoad 113 = .ok (.if_icmp .gt 7, 3) := by decide +kernel
theorem dX8_canLoad_116 : decode cX8_canLoad 116 = .ok (.iconst 1, 1) := by decide +kernel
theorem dX8_canLoad_117 : decode cX8_canLoad 117 = .ok (.goto 4, 3) := by decide +kernel
theorem dX8_canLoad_120 : decode cX8_canLoad 120 = .ok (.iconst 0, 1) := by decide +kernel
theorem dX8_canLoad_121 : decode cX8_canLoad 121 = .ok (.ireturn, 1) := by decide +kernel
set_option maxRecDepth 20000 in
theorem ggX8_load_X8_readText : GoodIn wsX8_load wsX8_readText := goodIn_r _ [9, 10, 3, 1, 11, 12, 13, 14, 8, 15, 16, 17, 18, 19, 20, 21, 22, 23, 24, 25, 26, 4, 27, 28, 29, 30, 31, 32, 33, 34, 35, 36, 37, 38, 39, 40, 41, 42, 43, 44, 45, 46, 47, 48, 49, 50, 51, 52, 69, 70, 71, 72, 73, 74, 75, 76, 77, 78, 79, 80, 81, 82, 83, 84, 85, 86, 87, 88, 89, 90, 91, 92, 93, 94, 95, 96, 97] (by decide +kernel) (by decide +kernel)
set_option maxRecDepth 20000 in
theorem gX8_load_X8_readText : GoodIn wsX8_load (wsV RX8 181 RX8 yX8_readText wsX8_readText) := goodIn_app (goodIn_of _ (by decide +kernel)) ggX8_load_X8_readText
set_option maxRecDepth 20000 in
theorem ggX8_load_X8_canEnd : GoodIn wsX8_load wsX8_canEnd := goodIn_r _ [22, 10, 16, 69, 70, 71, 72, 73, 74, 75, 76, 77, 78, 79, 80, 81, 82, 83, 84, 85, 86, 87, 88, 89, 90, 91, 92, 93, 94, 95, 96, 97] (by decide +kernel) (by decide +kernel)
set_option maxRecDepth 20000 in
theorem gX8_load_X8_canEnd : GoodIn wsX8_load (wsV RX8 158 RX8 yX8_canEnd wsX8_canEnd) := goodIn_app (goodIn_of _ (by decide +kernel)) ggX8_load_X8_canEnd
set_option maxRecDepth 20000 in
theorem ggX8_load_X8_endItem : GoodIn wsX8_load wsX8_endItem := goodIn_r _ [26, 3, 4, 27, 28, 29, 10, 16, 17, 18, 69, 70, 71, 72, 73, 74, 75, 76, 77, 78, 79, 80, 81, 82, 83, 84, 85, 86, 87, 88, 89, 90, 91, 92, 93, 94, 95, 96, 97] (by decide +kernel) (by decide +kernel)
set_option maxRecDepth 20000 in
theorem gX8_load_X8_endItem : GoodIn wsX8_load (wsV RX8 162 RX8 yX8_endItem wsX8_endItem) := goodIn_app (goodIn_of _ (by decide +kernel)) ggX8_load_X8_endItem
set_option maxRecDepth 20000 in
theorem ggX8_load_X8_canLoad : GoodIn wsX8_load wsX8_canLoad := goodIn_r _ [56, 3, 4, 57, 58, 69, 70, 71, 72, 73, 74, 75, 76, 77, 78, 79, 80, 81, 82, 83, 84, 85, 86, 87, 88, 89, 90, 91, 92, 93, 94, 95, 96, 97] (by decide +kernel) (by decide +kernel)
set_option maxRecDepth 20000 in
theorem gX8_load_X8_canLoad : GoodIn wsX8_load (wsV RX8 184 RX8 yX8_canLoad wsX8_canLoad) := goodIn_app (goodIn_of _ (by decide +kernel)) ggX8_load_X8_canLoad
set_option maxRecDepth 20000 in
theorem ggX8_load_X8_swap : GoodIn wsX8_load wsX8_swap := goodIn_r _ [62, 63, 69, 70, 71, 72, 73, 74, 75, 76, 77, 78, 79, 80, 81, 82, 83, 84, 85, 86, 87, 88, 89, 90, 91, 92, 93, 94, 95, 96, 97] (by decide +kernel) (by decide +kernel)
set_option maxRecDepth 20000 in
theorem gX8_load_X8_swap : GoodIn wsX8_load (wsV RX8 109 RX8 yX8_swap wsX8_swap) := goodIn_app (goodIn_of _ (by decide +kernel)) ggX8_load_X8_swap
set_option maxRecDepth 20000 in
theorem ggX8_load_X8_add : GoodIn wsX8_load wsX8_add := goodIn_r _ [67, 58, 68, 69, 70, 71, 72, 73, 74, 75, 76, 77, 78, 79, 80, 81, 82, 83, 84, 85, 86, 87, 88, 89, 90, 91, 92, 93, 94, 95, 96, 97] (by decide +kernel) (by decide +kernel)
set_option maxRecDepth 20000 in
theorem gX8_load_X8_add : GoodIn wsX8_load (wsV RX8 116 RX8 yX8_add wsX8_add) := goodIn_app (goodIn_of _ (by decide +kernel)) ggX8_load_X8_add
theorem dX8_load_0 : decode cX8_load 0 = .ok (.aload_n 0, 1) := by decide +kernel
theorem dX8_load_1 : decode cX8_load 1 = .ok (.invokevirtual 181, 3) := by decide +kernel
theorem dX8_load_4 : decode cX8_load 4 = .ok (.aload_n 0, 1) := by decide +kernel
theorem dX8_load_5 : decode cX8_load 5 = .ok (.getfield 127, 3) := by decide +kernel
theorem dX8_load_8 : decode cX8_load 8 = .ok (.if_icmp .ne 14, 3) := by decide +kernel
theorem dX8_load_11 : decode cX8_load 11 = .ok (.aload_n 0, 1) := by decide +kernel
theorem dX8_load_12 : decode cX8_load 12 = .ok (.invokevirtual 158, 3) := by decide +kernel
theorem dX8_load_15 : decode cX8_load 15 = .ok (.ifCond .eq 7, 3) := by decide +kernel
theorem dX8_load_18 : decode cX8_load 18 = .ok (.iconst 1, 1) := by decide +kernel
theorem dX8_load_19 : decode cX8_load 19 = .ok (.goto 4, 3) := by decide +kernel
theorem dX8_load_22 : decode cX8_load 22 = .ok (.iconst 0, 1) := by decide +kernel
theorem dX8_load_23 : decode cX8_load 23 = .ok (.istore_n 1, 1) := by decide +kernel
theorem dX8_load_24 : decode cX8_load 24 = .ok (.aload_n 0, 1) := by decide +kernel
theorem dX8_load_25 : decode cX8_load 25 = .ok (.iload_n 1, 1) := by decide +kernel
theorem dX8_load_26 : decode cX8_load 26 = .ok (.ifCond .eq 7, 3) := by decide +kernel
theorem dX8_load_29 : decode cX8_load 29 = .ok (.iconst 0, 1) := by decide +kernel
theorem dX8_load_30 : decode cX8_load 30 = .ok (.goto 4, 3) := by decide +kernel
theorem dX8_load_33 : decode cX8_load 33 = .ok (.iconst 1, 1) := by decide +kernel
theorem dX8_load_34 : decode cX8_load 34 = .ok (.putfield 44, 3) := by decide +kernel
theorem dX8_load_37 : decode cX8_load 37 = .ok (.aload_n 0, 1) := by decide +kernel
theorem dX8_load_38 : decode cX8_load 38 = .ok (.getfield 44, 3) := by decide +kernel
theorem dX8_load_41 : decode cX8_load 41 = .ok (.ifCond .le 5, 3) := by decide +kernel
theorem dX8_load_44 : decode cX8_load 44 = .ok (.iconst 0, 1) := by decide +kernel
theorem dX8_load_45 : decode cX8_load 45 = .ok (.ireturn, 1) := by decide +kernel
theorem dX8_load_46 : decode cX8_load 46 = .ok (.aload_n 0, 1) := by decide +kernel
theorem dX8_load_47 : decode cX8_load 47 = .ok (.invokevirtual 162, 3) := by decide +kernel
theorem dX8_load_50 : decode cX8_load 50 = .ok (.aload_n 0, 1) := by decide +kernel
theorem dX8_load_51 : decode cX8_load 51 = .ok (.aload_n 0, 1) := by decide +kernel
theorem dX8_load_52 : decode cX8_load 52 = .ok (.invokevirtual 184, 3) := by decide +kernel
theorem dX8_load_55 : decode cX8_load 55 = .ok (.ifCond .eq 7, 3) := by decide +kernel
theorem dX8_load_58 : decode cX8_load 58 = .ok (.iconst 0, 1) := by decide +kernel
theorem dX8_load_59 : decode cX8_load 59 = .ok (.goto 4, 3) := by decide +kernel
theorem dX8_load_62 : decode cX8_load 62 = .ok (.iconst 2, 1) := by decide +kernel
theorem dX8_load_63 : decode cX8_load 63 = .ok (.putfield 44, 3) := by decide +kernel
theorem dX8_load_66 : decode cX8_load 66 = .ok (.aload_n 0, 1) := by decide +kernel
theorem dX8_load_67 : decode cX8_load 67 = .ok (.getfield 44, 3) := by decide +kernel
theorem dX8_load_70 : decode cX8_load 70 = .ok (.ifCond .le 5, 3) := by decide +kernel
theorem dX8_load_73 : decode cX8_load 73 = .ok (.iconst 0, 1) := by decide +kernel
theorem dX8_load_74 : decode cX8_load 74 = .ok (.ireturn, 1) := by decide +kernel
theorem dX8_load_75 : decode cX8_load 75 = .ok (.iconst 0, 1) := by decide +kernel
theorem dX8_load_76 : decode cX8_load 76 = .ok (.istore_n 2, 1) := by decide +kernel
theorem dX8_load_77 : decode cX8_load 77 = .ok (.iload_n 2, 1) := by decide +kernel
theorem dX8_load_78 : decode cX8_load 78 = .ok (.aload_n 0, 1) := by decide +kernel
theorem dX8_load_79 : decode cX8_load 79 = .ok (.getfield 155, 3) := by decide +kernel
theorem dX8_load_82 : decode cX8_load 82 = .ok (.if_icmp .ge 136, 3) := by decide +kernel
theorem dX8_load_85 : decode cX8_load 85 = .ok (.bipush 6, 2) := by decide +kernel
theorem dX8_load_87 : decode cX8_load 87 = .ok (.iload_n 2, 1) := by decide +kernel
theorem dX8_load_88 : decode cX8_load 88 = .ok (.imul, 1) := by decide +kernel
theorem dX8_load_89 : decode cX8_load 89 = .ok (.istore_n 3, 1) := by decide +kernel
theorem dX8_load_90 : decode cX8_load 90 = .ok (.aload_n 0, 1) := by decide +kernel
theorem dX8_load_91 : decode cX8_load 91 = .ok (.getfield 28, 3) := by decide +kernel
theorem dX8_load_94 : decode cX8_load 94 = .ok (.iload_n 3, 1) := by decide +kernel
theorem dX8_load_95 : decode cX8_load 95 = .ok (.iaload, 1) := by decide +kernel
theorem dX8_load_96 : decode cX8_load 96 = .ok (.bipush 110, 2) := by decide +kernel
theorem dX8_load_98 : decode cX8_load 98 = .ok (.if_icmp .eq 14, 3) := by decide +kernel
theorem dX8_load_101 : decode cX8_load 101 = .ok (.aload_n 0, 1) := by decide +kernel
theorem dX8_load_102 : decode cX8_load 102 = .ok (.getfield 28, 3) := by decide +kernel
theorem dX8_load_105 : decode cX8_load 105 = .ok (.iload_n 3, 1) := by decide +kernel
theorem dX8_load_106 : decode cX8_load 106 = .ok (.iaload, 1) := by decide +kernel
theorem dX8_load_107 : decode cX8_load 107 = .ok (.bipush 102, 2) := by decide +kernel
theorem dX8_load_109 : decode cX8_load 109 = .ok (.if_icmp .ne 42, 3) := by decide +kernel
theorem dX8_load_112 : decode cX8_load 112 = .ok (.aload_n 0, 1) := by decide +kernel
theorem dX8_load_113 : decode cX8_load 113 = .ok (.aload_n 0, 1) := by decide +kernel
theorem dX8_load_114 : decode cX8_load 114 = .ok (.getfield 28, 3) := by decide +kernel
theorem dX8_load_117 : decode cX8_load 117 = .ok (.iload_n 3, 1) := by decide +kernel
theorem dX8_load_118 : decode cX8_load 118 = .ok (.iaload, 1) := by decide +kernel
theorem dX8_load_119 : decode cX8_load 119 = .ok (.bipush 110, 2) := by decide +kernel
theorem dX8_load_121 : decode cX8_load 121 = .ok (.if_icmp .ne 7, 3) := by decide +kernel
theorem dX8_load_124 : decode cX8_load 124 = .ok (.iconst 0, 1) := by decide +kernel
theorem dX8_load_125 : decode cX8_load 125 = .ok (.goto 4, 3) := by decide +kernel
theorem dX8_load_128 : decode cX8_load 128 = .ok (.iconst 1, 1) := by decide +kernel
theorem dX8_load_129 : decode cX8_load 129 = .ok (.aload_n 0, 1) := by decide +kernel
theorem dX8_load_130 : decode cX8_load 130 = .ok (.getfield 28, 3) := by decide +kernel
theorem dX8_load_133 : decode cX8_load 133 = .ok (.iload_n 3, 1) := by decide +kernel
theorem dX8_load_134 : decode cX8_load 134 = .ok (.iconst 1, 1) := by decide +kernel
theorem dX8_load_135 : decode cX8_load 135 = .ok (.iadd, 1) := by decide +kernel
theorem dX8_load_136 : decode cX8_load 136 = .ok (.iaload, 1) := by decide +kernel
theorem dX8_load_137 : decode cX8_load 137 = .ok (.aload_n 0, 1) := by decide +kernel
theorem dX8_load_138 : decode cX8_load 138 = .ok (.getfield 28, 3) := by decide +kernel
theorem dX8_load_141 : decode cX8_load 141 = .ok (.iload_n 3, 1) := by decide +kernel
theorem dX8_load_142 : decode cX8_load 142 = .ok (.iconst 2, 1) := by decide +kernel
theorem dX8_load_143 : decode cX8_load 143 = .ok (.iadd, 1) := by decide +kernel
theorem dX8_load_144 : decode cX8_load 144 = .ok (.iaload, 1) := by decide +kernel
theorem dX8_load_145 : decode cX8_load 145 = .ok (.invokevirtual 109, 3) := by decide +kernel
theorem dX8_load_148 : decode cX8_load 148 = .ok (.goto 64, 3) := by decide +kernel
theorem dX8_load_151 : decode cX8_load 151 = .ok (.aload_n 0, 1) := by decide +kernel
theorem dX8_load_152 : decode cX8_load 152 = .ok (.aload_n 0, 1) := by decide +kernel
theorem dX8_load_153 : decode cX8_load 153 = .ok (.getfield 28, 3) := by decide +kernel
theorem dX8_load_156 : decode cX8_load 156 = .ok (.iload_n 3, 1) := by decide +kernel
theorem dX8_load_157 : decode cX8_load 157 = .ok (.iaload, 1) := by decide +kernel
theorem dX8_load_158 : decode cX8_load 158 = .ok (.bipush 115, 2) := by decide +kernel
theorem dX8_load_160 : decode cX8_load 160 = .ok (.if_icmp .ne 7, 3) := by decide +kernel
theorem dX8_load_163 : decode cX8_load 163 = .ok (.iconst 1, 1) := by decide +kernel
theorem dX8_load_164 : decode cX8_load 164 = .ok (.goto 4, 3) := by decide +kernel
theorem dX8_load_167 : decode cX8_load 167 = .ok (.iconst 0, 1) := by decide +kernel
theorem dX8_load_168 : decode cX8_load 168 = .ok (.aload_n 0, 1) := by decide +kernel
theorem dX8_load_169 : decode cX8_load 169 = .ok (.getfield 28, 3) := by decide +kernel
theorem dX8_load_172 : decode cX8_load 172 = .ok (.iload_n 3, 1) := by decide +kernel
theorem dX8_load_173 : decode cX8_load 173 = .ok (.iconst 1, 1) := by decide +kernel
theorem dX8_load_174 : decode cX8_load 174 = .ok (.iadd, 1) := by decide +kernel
theorem dX8_load_175 : decode cX8_load 175 = .ok (.iaload, 1) := by decide +kernel
theorem dX8_load_176 : decode cX8_load 176 = .ok (.aload_n 0, 1) := by decide +kernel
theorem dX8_load_177 : decode cX8_load 177 = .ok (.getfield 28, 3) := by decide +kernel
theorem dX8_load_180 : decode cX8_load 180 = .ok (.iload_n 3, 1) := by decide +kernel
theorem dX8_load_181 : decode cX8_load 181 = .ok (.iconst 2, 1) := by decide +kernel
theorem dX8_load_182 : decode cX8_load 182 = .ok (.iadd, 1) := by decide +kernel
theorem dX8_load_183 : decode cX8_load 183 = .ok (.iaload, 1) := by decide +kernel
theorem dX8_load_184 : decode cX8_load 184 = .ok (.aload_n 0, 1) := by decide +kernel
theorem dX8_load_185 : decode cX8_load 185 = .ok (.getfield 28, 3) := by decide +kernel
theorem dX8_load_188 : decode cX8_load 188 = .ok (.iload_n 3, 1) := by decide +kernel
theorem dX8_load_189 : decode cX8_load 189 = .ok (.iconst 3, 1) := by decide +kernel
theorem dX8_load_190 : decode cX8_load 190 = .ok (.iadd, 1) := by decide +kernel
theorem dX8_load_191 : decode cX8_load 191 = .ok (.iaload, 1) := by decide +kernel
theorem dX8_load_192 : decode cX8_load 192 = .ok (.aload_n 0, 1) := by decide +kernel
theorem dX8_load_193 : decode cX8_load 193 = .ok (.getfield 28, 3) := by decide +kernel
theorem dX8_load_196 : decode cX8_load 196 = .ok (.iload_n 3, 1) := by decide +kernel
theorem dX8_load_197 : decode cX8_load 197 = .ok (.iconst 4, 1) := by decide +kernel
theorem dX8_load_198 : decode cX8_load 198 = .ok (.iadd, 1) := by decide +kernel
theorem dX8_load_199 : decode cX8_load 199 = .ok (.iaload, 1) := by decide +kernel
theorem dX8_load_200 : decode cX8_load 200 = .ok (.aload_n 0, 1) := by decide +kernel
theorem dX8_load_201 : decode cX8_load 201 = .ok (.getfield 28, 3) := by decide +kernel
theorem dX8_load_204 : decode cX8_load 204 = .ok (.iload_n 3, 1) := by decide +kernel
theorem dX8_load_205 : decode cX8_load 205 = .ok (.iconst 5, 1) := by decide +kernel
theorem dX8_load_206 : decode cX8_load 206 = .ok (.iadd, 1) := by decide +kernel
theorem dX8_load_207 : decode cX8_load 207 = .ok (.iaload, 1) := by decide +kernel
theorem dX8_load_208 : decode cX8_load 208 = .ok (.invokevirtual 116, 3) := by decide +kernel
theorem dX8_load_211 : decode cX8_load 211 = .ok (.pop, 1) := by decide +kernel
theorem dX8_load_212 : decode cX8_load 212 = .ok (.iinc 2 1, 3) := by decide +kernel
theorem dX8_load_215 : decode cX8_load 215 = .ok (.goto (-138), 3) := by decide +kernel
theorem dX8_load_218 : decode cX8_load 218 = .ok (.aload_n 0, 1) := by decide +kernel
theorem dX8_load_219 : decode cX8_load 219 = .ok (.iconst 0, 1) := by decide +kernel
theorem dX8_load_220 : decode cX8_load 220 = .ok (.putfield 127, 3) := by decide +kernel
theorem dX8_load_223 : decode cX8_load 223 = .ok (.aload_n 0, 1) := by decide +kernel
theorem dX8_load_224 : decode cX8_load 224 = .ok (.getfield 155, 3) := by decide +kernel
theorem dX8_load_227 : decode cX8_load 227 = .ok (.ireturn, 1) := by decide +kernel
set_option maxRecDepth 20000 in
theorem ggX8_joinedNow_X8_layNets : GoodIn wsX8_joinedNow wsX8_layNets := goodIn_r _ [6, 7, 8, 9, 10, 11, 12, 5, 13, 14, 15, 16, 17, 18, 19, 20, 21, 22, 23, 24, 25, 26, 27, 28, 29, 30, 31, 32, 37, 38, 39, 40, 41, 42, 43, 44, 45, 46, 47, 48, 49, 50, 51, 52, 53, 54, 55, 56, 57, 58, 59, 60, 61, 62, 63, 64, 65] (by decide +kernel) (by decide +kernel)
set_option maxRecDepth 20000 in
theorem gX8_joinedNow_X8_layNets : GoodIn wsX8_joinedNow (wsV RX8 96 RX8 yX8_layNets wsX8_layNets) := goodIn_app (goodIn_of _ (by decide +kernel)) ggX8_joinedNow_X8_layNets
set_option maxRecDepth 20000 in
theorem ggX8_joinedNow_X8_same : GoodIn wsX8_joinedNow wsX8_same := goodIn_r _ [36, 7, 37, 38, 39, 40, 41, 42, 43, 44, 45, 46, 47, 48, 49, 50, 51, 52, 53, 54, 55, 56, 57, 58, 59, 60, 61, 62, 63, 64, 65] (by decide +kernel) (by decide +kernel)
set_option maxRecDepth 20000 in
theorem gX8_joinedNow_X8_same : GoodIn wsX8_joinedNow (wsV RX8 90 RX8 yX8_same wsX8_same) := goodIn_app (goodIn_of _ (by decide +kernel)) ggX8_joinedNow_X8_same
theorem dX8_joinedNow_0 : decode cX8_joinedNow 0 = .ok (.aload_n 0, 1) := by decide +kernel
theorem dX8_joinedNow_1 : decode cX8_joinedNow 1 = .ok (.aload_n 0, 1) := by decide +kernel
theorem dX8_joinedNow_2 : decode cX8_joinedNow 2 = .ok (.getfield 61, 3) := by decide +kernel
theorem dX8_joinedNow_5 : decode cX8_joinedNow 5 = .ok (.invokevirtual 96, 3) := by decide +kernel
theorem dX8_joinedNow_8 : decode cX8_joinedNow 8 = .ok (.aload_n 0, 1) := by decide +kernel
theorem dX8_joinedNow_9 : decode cX8_joinedNow 9 = .ok (.bipush 8, 2) := by decide +kernel
theorem dX8_joinedNow_11 : decode cX8_joinedNow 11 = .ok (.iload_n 1, 1) := by decide +kernel
theorem dX8_joinedNow_12 : decode cX8_joinedNow 12 = .ok (.imul, 1) := by decide +kernel
theorem dX8_joinedNow_13 : decode cX8_joinedNow 13 = .ok (.iload_n 2, 1) := by decide +kernel
theorem dX8_joinedNow_14 : decode cX8_joinedNow 14 = .ok (.iadd, 1) := by decide +kernel
theorem dX8_joinedNow_15 : decode cX8_joinedNow 15 = .ok (.iload_n 3, 1) := by decide +kernel
theorem dX8_joinedNow_16 : decode cX8_joinedNow 16 = .ok (.invokevirtual 90, 3) := by decide +kernel
theorem dX8_joinedNow_19 : decode cX8_joinedNow 19 = .ok (.istore 4, 2) := by decide +kernel
theorem dX8_joinedNow_21 : decode cX8_joinedNow 21 = .ok (.iload_n 1, 1) := by decide +kernel
theorem dX8_joinedNow_22 : decode cX8_joinedNow 22 = .ok (.iload_n 3, 1) := by decide +kernel
theorem dX8_joinedNow_23 : decode cX8_joinedNow 23 = .ok (.if_icmp .ne 14, 3) := by decide +kernel
theorem dX8_joinedNow_26 : decode cX8_joinedNow 26 = .ok (.iload 4, 2) := by decide +kernel
theorem dX8_joinedNow_28 : decode cX8_joinedNow 28 = .ok (.iconst 1, 1) := by decide +kernel
theorem dX8_joinedNow_29 : decode cX8_joinedNow 29 = .ok (.iload_n 2, 1) := by decide +kernel
theorem dX8_joinedNow_30 : decode cX8_joinedNow 30 = .ok (.ishl, 1) := by decide +kernel
theorem dX8_joinedNow_31 : decode cX8_joinedNow 31 = .ok (.iconst (-1), 1) := by decide +kernel
theorem dX8_joinedNow_32 : decode cX8_joinedNow 32 = .ok (.ixor, 1) := by decide +kernel
