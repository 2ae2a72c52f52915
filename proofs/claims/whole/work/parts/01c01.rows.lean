theorem dX4_bitsOf_0 : decode cX4_bitsOf 0 = .ok (.iload_n 1, 1) := by decide +kernel
theorem dX4_bitsOf_1 : decode cX4_bitsOf 1 = .ok (.ifCond .lt 21, 3) := by decide +kernel
theorem dX4_bitsOf_4 : decode cX4_bitsOf 4 = .ok (.iload_n 1, 1) := by decide +kernel
theorem dX4_bitsOf_5 : decode cX4_bitsOf 5 = .ok (.aload_n 0, 1) := by decide +kernel
theorem dX4_bitsOf_6 : decode cX4_bitsOf 6 = .ok (.getfield 9, 3) := by decide +kernel
theorem dX4_bitsOf_9 : decode cX4_bitsOf 9 = .ok (.arraylength, 1) := by decide +kernel
theorem dX4_bitsOf_10 : decode cX4_bitsOf 10 = .ok (.if_icmp .ge 12, 3) := by decide +kernel
theorem dX4_bitsOf_13 : decode cX4_bitsOf 13 = .ok (.aload_n 0, 1) := by decide +kernel
theorem dX4_bitsOf_14 : decode cX4_bitsOf 14 = .ok (.getfield 9, 3) := by decide +kernel
theorem dX4_bitsOf_17 : decode cX4_bitsOf 17 = .ok (.iload_n 1, 1) := by decide +kernel
theorem dX4_bitsOf_18 : decode cX4_bitsOf 18 = .ok (.laload, 1) := by decide +kernel
theorem dX4_bitsOf_19 : decode cX4_bitsOf 19 = .ok (.goto 4, 3) := by decide +kernel
theorem dX4_bitsOf_22 : decode cX4_bitsOf 22 = .ok (.lconst 0, 1) := by decide +kernel
theorem dX4_bitsOf_23 : decode cX4_bitsOf 23 = .ok (.lreturn, 1) := by decide +kernel
set_option maxRecDepth 20000 in
theorem ggX4_timesWrong_X4_bitsOf : GoodIn wsX4_timesWrong wsX4_bitsOf := goodIn_r _ [5, 6, 14, 15] (by decide +kernel) (by decide +kernel)
set_option maxRecDepth 20000 in
theorem gX4_timesWrong_X4_bitsOf : GoodIn wsX4_timesWrong (wsV RX4 38 RX4 yX4_bitsOf wsX4_bitsOf) := goodIn_app (goodIn_of _ (by decide +kernel)) ggX4_timesWrong_X4_bitsOf
set_option maxRecDepth 20000 in
theorem ggX4_timesWrong_J13_bitCount_95d88 : GoodIn wsX4_timesWrong wsJ13_bitCount_95d88 := goodIn_r _ [10, 11, 12, 13] (by decide +kernel) (by decide +kernel)
set_option maxRecDepth 20000 in
theorem gX4_timesWrong_J13_bitCount_95d88 : GoodIn wsX4_timesWrong (va_wsS RX4 42 yJ13_bitCount_95d88 wsJ13_bitCount_95d88) := goodIn_app (goodIn_of _ (by decide +kernel)) ggX4_timesWrong_J13_bitCount_95d88
theorem dX4_timesWrong_0 : decode cX4_timesWrong 0 = .ok (.aload_n 0, 1) := by decide +kernel
theorem dX4_timesWrong_1 : decode cX4_timesWrong 1 = .ok (.iload_n 1, 1) := by decide +kernel
theorem dX4_timesWrong_2 : decode cX4_timesWrong 2 = .ok (.invokevirtual 38, 3) := by decide +kernel
theorem dX4_timesWrong_5 : decode cX4_timesWrong 5 = .ok (.invokestatic 42, 3) := by decide +kernel
theorem dX4_timesWrong_8 : decode cX4_timesWrong 8 = .ok (.ireturn, 1) := by decide +kernel
set_option maxRecDepth 20000 in
theorem ggX4_longestWrongRow_X4_bitsOf : GoodIn wsX4_longestWrongRow wsX4_bitsOf := goodIn_r _ [5, 6, 7, 8] (by decide +kernel) (by decide +kernel)
set_option maxRecDepth 20000 in
theorem gX4_longestWrongRow_X4_bitsOf : GoodIn wsX4_longestWrongRow (wsV RX4 38 RX4 yX4_bitsOf wsX4_bitsOf) := goodIn_app (goodIn_of _ (by decide +kernel)) ggX4_longestWrongRow_X4_bitsOf
theorem dX4_longestWrongRow_0 : decode cX4_longestWrongRow 0 = .ok (.aload_n 0, 1) := by decide +kernel
theorem dX4_longestWrongRow_1 : decode cX4_longestWrongRow 1 = .ok (.iload_n 1, 1) := by decide +kernel
theorem dX4_longestWrongRow_2 : decode cX4_longestWrongRow 2 = .ok (.invokevirtual 38, 3) := by decide +kernel
theorem dX4_longestWrongRow_5 : decode cX4_longestWrongRow 5 = .ok (.lstore_n 2, 1) := by decide +kernel
theorem dX4_longestWrongRow_6 : decode cX4_longestWrongRow 6 = .ok (.iconst 0, 1) := by decide +kernel
theorem dX4_longestWrongRow_7 : decode cX4_longestWrongRow 7 = .ok (.istore 4, 2) := by decide +kernel
theorem dX4_longestWrongRow_9 : decode cX4_longestWrongRow 9 = .ok (.iconst 0, 1) := by decide +kernel
theorem dX4_longestWrongRow_10 : decode cX4_longestWrongRow 10 = .ok (.istore 5, 2) := by decide +kernel
theorem dX4_longestWrongRow_12 : decode cX4_longestWrongRow 12 = .ok (.iload 5, 2) := by decide +kernel
theorem dX4_longestWrongRow_14 : decode cX4_longestWrongRow 14 = .ok (.bipush 64, 2) := by decide +kernel
theorem dX4_longestWrongRow_16 : decode cX4_longestWrongRow 16 = .ok (.if_icmp .ge 24, 3) := by decide +kernel
theorem dX4_longestWrongRow_19 : decode cX4_longestWrongRow 19 = .ok (.lload_n 2, 1) := by decide +kernel
theorem dX4_longestWrongRow_20 : decode cX4_longestWrongRow 20 = .ok (.lconst 0, 1) := by decide +kernel
theorem dX4_longestWrongRow_21 : decode cX4_longestWrongRow 21 = .ok (.lcmp, 1) := by decide +kernel
theorem dX4_longestWrongRow_22 : decode cX4_longestWrongRow 22 = .ok (.ifCond .eq 18, 3) := by decide +kernel
theorem dX4_longestWrongRow_25 : decode cX4_longestWrongRow 25 = .ok (.lload_n 2, 1) := by decide +kernel
theorem dX4_longestWrongRow_26 : decode cX4_longestWrongRow 26 = .ok (.lload_n 2, 1) := by decide +kernel
theorem dX4_longestWrongRow_27 : decode cX4_longestWrongRow 27 = .ok (.iconst 1, 1) := by decide +kernel
theorem dX4_longestWrongRow_28 : decode cX4_longestWrongRow 28 = .ok (.lshl, 1) := by decide +kernel
theorem dX4_longestWrongRow_29 : decode cX4_longestWrongRow 29 = .ok (.land, 1) := by decide +kernel
theorem dX4_longestWrongRow_30 : decode cX4_longestWrongRow 30 = .ok (.lstore_n 2, 1) := by decide +kernel
theorem dX4_longestWrongRow_31 : decode cX4_longestWrongRow 31 = .ok (.iinc 4 1, 3) := by decide +kernel
theorem dX4_longestWrongRow_34 : decode cX4_longestWrongRow 34 = .ok (.iinc 5 1, 3) := by decide +kernel
theorem dX4_longestWrongRow_37 : decode cX4_longestWrongRow 37 = .ok (.goto (-25), 3) := by decide +kernel
theorem dX4_longestWrongRow_40 : decode cX4_longestWrongRow 40 = .ok (.iload 4, 2) := by decide +kernel
theorem dX4_longestWrongRow_42 : decode cX4_longestWrongRow 42 = .ok (.ireturn, 1) := by decide +kernel
set_option maxRecDepth 20000 in
theorem ggX4_changes_X4_differences : GoodIn wsX4_changes wsX4_differences := goodIn_r _ [6, 1, 7, 8, 9, 5, 10, 11, 19, 20] (by decide +kernel) (by decide +kernel)
set_option maxRecDepth 20000 in
theorem gX4_changes_X4_differences : GoodIn wsX4_changes (wsV RX4 48 RX4 yX4_differences wsX4_differences) := goodIn_app (goodIn_of _ (by decide +kernel)) ggX4_changes_X4_differences
set_option maxRecDepth 20000 in
theorem ggX4_changes_J13_bitCount_95d88 : GoodIn wsX4_changes wsJ13_bitCount_95d88 := goodIn_r _ [15, 16, 17, 18] (by decide +kernel) (by decide +kernel)
set_option maxRecDepth 20000 in
theorem gX4_changes_J13_bitCount_95d88 : GoodIn wsX4_changes (va_wsS RX4 42 yJ13_bitCount_95d88 wsJ13_bitCount_95d88) := goodIn_app (goodIn_of _ (by decide +kernel)) ggX4_changes_J13_bitCount_95d88
theorem dX4_changes_0 : decode cX4_changes 0 = .ok (.aload_n 0, 1) := by decide +kernel
theorem dX4_changes_1 : decode cX4_changes 1 = .ok (.getfield 15, 3) := by decide +kernel
theorem dX4_changes_4 : decode cX4_changes 4 = .ok (.iconst 2, 1) := by decide +kernel
theorem dX4_changes_5 : decode cX4_changes 5 = .ok (.if_icmp .ge 7, 3) := by decide +kernel
theorem dX4_changes_8 : decode cX4_changes 8 = .ok (.iconst 0, 1) := by decide +kernel
theorem dX4_changes_9 : decode cX4_changes 9 = .ok (.goto 12, 3) := by decide +kernel
theorem dX4_changes_12 : decode cX4_changes 12 = .ok (.aload_n 0, 1) := by decide +kernel
theorem dX4_changes_13 : decode cX4_changes 13 = .ok (.iload_n 1, 1) := by decide +kernel
theorem dX4_changes_14 : decode cX4_changes 14 = .ok (.iconst 1, 1) := by decide +kernel
theorem dX4_changes_15 : decode cX4_changes 15 = .ok (.invokevirtual 48, 3) := by decide +kernel
theorem dX4_changes_18 : decode cX4_changes 18 = .ok (.invokestatic 42, 3) := by decide +kernel
theorem dX4_changes_21 : decode cX4_changes 21 = .ok (.ireturn, 1) := by decide +kernel
set_option maxRecDepth 20000 in
theorem ggX4_leastPeriod_X4_differences : GoodIn wsX4_leastPeriod wsX4_differences := goodIn_r _ [6, 1, 7, 8, 9, 5, 10, 11, 12, 13] (by decide +kernel) (by decide +kernel)
set_option maxRecDepth 20000 in
theorem gX4_leastPeriod_X4_differences : GoodIn wsX4_leastPeriod (wsV RX4 48 RX4 yX4_differences wsX4_differences) := goodIn_app (goodIn_of _ (by decide +kernel)) ggX4_leastPeriod_X4_differences
theorem dX4_leastPeriod_0 : decode cX4_leastPeriod 0 = .ok (.iconst 1, 1) := by decide +kernel
theorem dX4_leastPeriod_1 : decode cX4_leastPeriod 1 = .ok (.istore_n 2, 1) := by decide +kernel
theorem dX4_leastPeriod_2 : decode cX4_leastPeriod 2 = .ok (.iload_n 2, 1) := by decide +kernel
theorem dX4_leastPeriod_3 : decode cX4_leastPeriod 3 = .ok (.bipush 32, 2) := by decide +kernel
theorem dX4_leastPeriod_5 : decode cX4_leastPeriod 5 = .ok (.if_icmp .gt 32, 3) := by decide +kernel
theorem dX4_leastPeriod_8 : decode cX4_leastPeriod 8 = .ok (.iconst 2, 1) := by decide +kernel
theorem dX4_leastPeriod_9 : decode cX4_leastPeriod 9 = .ok (.iload_n 2, 1) := by decide +kernel
theorem dX4_leastPeriod_10 : decode cX4_leastPeriod 10 = .ok (.imul, 1) := by decide +kernel
theorem dX4_leastPeriod_11 : decode cX4_leastPeriod 11 = .ok (.aload_n 0, 1) := by decide +kernel
theorem dX4_leastPeriod_12 : decode cX4_leastPeriod 12 = .ok (.getfield 15, 3) := by decide +kernel
theorem dX4_leastPeriod_15 : decode cX4_leastPeriod 15 = .ok (.if_icmp .gt 22, 3) := by decide +kernel
theorem dX4_leastPeriod_18 : decode cX4_leastPeriod 18 = .ok (.aload_n 0, 1) := by decide +kernel
theorem dX4_leastPeriod_19 : decode cX4_leastPeriod 19 = .ok (.iload_n 1, 1) := by decide +kernel
theorem dX4_leastPeriod_20 : decode cX4_leastPeriod 20 = .ok (.iload_n 2, 1) := by decide +kernel
theorem dX4_leastPeriod_21 : decode cX4_leastPeriod 21 = .ok (.invokevirtual 48, 3) := by decide +kernel
theorem dX4_leastPeriod_24 : decode cX4_leastPeriod 24 = .ok (.lconst 0, 1) := by decide +kernel
theorem dX4_leastPeriod_25 : decode cX4_leastPeriod 25 = .ok (.lcmp, 1) := by decide +kernel
theorem dX4_leastPeriod_26 : decode cX4_leastPeriod 26 = .ok (.ifCond .ne 5, 3) := by decide +kernel
theorem dX4_leastPeriod_29 : decode cX4_leastPeriod 29 = .ok (.iload_n 2, 1) := by decide +kernel
theorem dX4_leastPeriod_30 : decode cX4_leastPeriod 30 = .ok (.ireturn, 1) := by decide +kernel
theorem dX4_leastPeriod_31 : decode cX4_leastPeriod 31 = .ok (.iinc 2 1, 3) := by decide +kernel
theorem dX4_leastPeriod_34 : decode cX4_leastPeriod 34 = .ok (.goto (-32), 3) := by decide +kernel
theorem dX4_leastPeriod_37 : decode cX4_leastPeriod 37 = .ok (.iconst (-1), 1) := by decide +kernel
theorem dX4_leastPeriod_38 : decode cX4_leastPeriod 38 = .ok (.ireturn, 1) := by decide +kernel
set_option maxRecDepth 20000 in
theorem ggX4_differences_X4_bitsOf : GoodIn wsX4_differences wsX4_bitsOf := goodIn_r _ [6, 7, 8, 9] (by decide +kernel) (by decide +kernel)
set_option maxRecDepth 20000 in
theorem gX4_differences_X4_bitsOf : GoodIn wsX4_differences (wsV RX4 38 RX4 yX4_bitsOf wsX4_bitsOf) := goodIn_app (goodIn_of _ (by decide +kernel)) ggX4_differences_X4_bitsOf
theorem dX4_differences_0 : decode cX4_differences 0 = .ok (.aload_n 0, 1) := by decide +kernel
theorem dX4_differences_1 : decode cX4_differences 1 = .ok (.iload_n 1, 1) := by decide +kernel
theorem dX4_differences_2 : decode cX4_differences 2 = .ok (.invokevirtual 38, 3) := by decide +kernel
theorem dX4_differences_5 : decode cX4_differences 5 = .ok (.lstore_n 3, 1) := by decide +kernel
theorem dX4_differences_6 : decode cX4_differences 6 = .ok (.lload_n 3, 1) := by decide +kernel
theorem dX4_differences_7 : decode cX4_differences 7 = .ok (.lload_n 3, 1) := by decide +kernel
theorem dX4_differences_8 : decode cX4_differences 8 = .ok (.iload_n 2, 1) := by decide +kernel
theorem dX4_differences_9 : decode cX4_differences 9 = .ok (.lushr, 1) := by decide +kernel
theorem dX4_differences_10 : decode cX4_differences 10 = .ok (.lxor, 1) := by decide +kernel
theorem dX4_differences_11 : decode cX4_differences 11 = .ok (.lconst 1, 1) := by decide +kernel
theorem dX4_differences_12 : decode cX4_differences 12 = .ok (.aload_n 0, 1) := by decide +kernel
theorem dX4_differences_13 : decode cX4_differences 13 = .ok (.getfield 15, 3) := by decide +kernel
theorem dX4_differences_16 : decode cX4_differences 16 = .ok (.iload_n 2, 1) := by decide +kernel
theorem dX4_differences_17 : decode cX4_differences 17 = .ok (.isub, 1) := by decide +kernel
theorem dX4_differences_18 : decode cX4_differences 18 = .ok (.lshl, 1) := by decide +kernel
theorem dX4_differences_19 : decode cX4_differences 19 = .ok (.lconst 1, 1) := by decide +kernel
theorem dX4_differences_20 : decode cX4_differences 20 = .ok (.lsub, 1) := by decide +kernel
theorem dX4_differences_21 : decode cX4_differences 21 = .ok (.land, 1) := by decide +kernel
theorem dX4_differences_22 : decode cX4_differences 22 = .ok (.lreturn, 1) := by decide +kernel
set_option maxRecDepth 20000 in
theorem ggX4_mostWrongPin_X4_timesWrong : GoodIn wsX4_mostWrongPin wsX4_timesWrong := goodIn_r _ [5, 6, 7, 8, 4, 9, 10, 11, 12, 13, 14, 15, 16, 17, 18, 19] (by decide +kernel) (by decide +kernel)
set_option maxRecDepth 20000 in
theorem gX4_mostWrongPin_X4_timesWrong : GoodIn wsX4_mostWrongPin (wsV RX4 25 RX4 yX4_timesWrong wsX4_timesWrong) := goodIn_app (goodIn_of _ (by decide +kernel)) ggX4_mostWrongPin_X4_timesWrong
theorem dX4_mostWrongPin_0 : decode cX4_mostWrongPin 0 = .ok (.iconst (-1), 1) := by decide +kernel
theorem dX4_mostWrongPin_1 : decode cX4_mostWrongPin 1 = .ok (.istore_n 1, 1) := by decide +kernel
theorem dX4_mostWrongPin_2 : decode cX4_mostWrongPin 2 = .ok (.iconst 0, 1) := by decide +kernel
theorem dX4_mostWrongPin_3 : decode cX4_mostWrongPin 3 = .ok (.istore_n 2, 1) := by decide +kernel
theorem dX4_mostWrongPin_4 : decode cX4_mostWrongPin 4 = .ok (.iconst 0, 1) := by decide +kernel
theorem dX4_mostWrongPin_5 : decode cX4_mostWrongPin 5 = .ok (.istore_n 3, 1) := by decide +kernel
theorem dX4_mostWrongPin_6 : decode cX4_mostWrongPin 6 = .ok (.iload_n 3, 1) := by decide +kernel
theorem dX4_mostWrongPin_7 : decode cX4_mostWrongPin 7 = .ok (.bipush 8, 2) := by decide +kernel
theorem dX4_mostWrongPin_9 : decode cX4_mostWrongPin 9 = .ok (.if_icmp .ge 26, 3) := by decide +kernel
theorem dX4_mostWrongPin_12 : decode cX4_mostWrongPin 12 = .ok (.aload_n 0, 1) := by decide +kernel
theorem dX4_mostWrongPin_13 : decode cX4_mostWrongPin 13 = .ok (.iload_n 3, 1) := by decide +kernel
theorem dX4_mostWrongPin_14 : decode cX4_mostWrongPin 14 = .ok (.invokevirtual 25, 3) := by decide +kernel
theorem dX4_mostWrongPin_17 : decode cX4_mostWrongPin 17 = .ok (.iload_n 2, 1) := by decide +kernel
theorem dX4_mostWrongPin_18 : decode cX4_mostWrongPin 18 = .ok (.if_icmp .le 11, 3) := by decide +kernel
theorem dX4_mostWrongPin_21 : decode cX4_mostWrongPin 21 = .ok (.iload_n 3, 1) := by decide +kernel
theorem dX4_mostWrongPin_22 : decode cX4_mostWrongPin 22 = .ok (.istore_n 1, 1) := by decide +kernel
theorem dX4_mostWrongPin_23 : decode cX4_mostWrongPin 23 = .ok (.aload_n 0, 1) := by decide +kernel
theorem dX4_mostWrongPin_24 : decode cX4_mostWrongPin 24 = .ok (.iload_n 3, 1) := by decide +kernel
theorem dX4_mostWrongPin_25 : decode cX4_mostWrongPin 25 = .ok (.invokevirtual 25, 3) := by decide +kernel
theorem dX4_mostWrongPin_28 : decode cX4_mostWrongPin 28 = .ok (.istore_n 2, 1) := by decide +kernel
theorem dX4_mostWrongPin_29 : decode cX4_mostWrongPin 29 = .ok (.iinc 3 1, 3) := by decide +kernel
theorem dX4_mostWrongPin_32 : decode cX4_mostWrongPin 32 = .ok (.goto (-26), 3) := by decide +kernel
theorem dX4_mostWrongPin_35 : decode cX4_mostWrongPin 35 = .ok (.iload_n 1, 1) := by decide +kernel
theorem dX4_mostWrongPin_36 : decode cX4_mostWrongPin 36 = .ok (.ireturn, 1) := by decide +kernel
set_option maxRecDepth 20000 in
theorem ggX4_shareOfWrong_X4_timesWrong : GoodIn wsX4_shareOfWrong wsX4_timesWrong := goodIn_r _ [6, 7, 8, 9, 5, 10, 11, 12, 13, 14, 15, 16, 17, 18, 19, 20] (by decide +kernel) (by decide +kernel)
set_option maxRecDepth 20000 in
theorem gX4_shareOfWrong_X4_timesWrong : GoodIn wsX4_shareOfWrong (wsV RX4 25 RX4 yX4_timesWrong wsX4_timesWrong) := goodIn_app (goodIn_of _ (by decide +kernel)) ggX4_shareOfWrong_X4_timesWrong
theorem dX4_shareOfWrong_0 : decode cX4_shareOfWrong 0 = .ok (.aload_n 0, 1) := by decide +kernel
theorem dX4_shareOfWrong_1 : decode cX4_shareOfWrong 1 = .ok (.getfield 15, 3) := by decide +kernel
theorem dX4_shareOfWrong_4 : decode cX4_shareOfWrong 4 = .ok (.ifCond .gt 5, 3) := by decide +kernel
theorem dX4_shareOfWrong_7 : decode cX4_shareOfWrong 7 = .ok (.dconst 0, 1) := by decide +kernel
theorem dX4_shareOfWrong_8 : decode cX4_shareOfWrong 8 = .ok (.dreturn, 1) := by decide +kernel
theorem dX4_shareOfWrong_9 : decode cX4_shareOfWrong 9 = .ok (.iconst 0, 1) := by decide +kernel
theorem dX4_shareOfWrong_10 : decode cX4_shareOfWrong 10 = .ok (.istore_n 1, 1) := by decide +kernel
theorem dX4_shareOfWrong_11 : decode cX4_shareOfWrong 11 = .ok (.iconst 0, 1) := by decide +kernel
theorem dX4_shareOfWrong_12 : decode cX4_shareOfWrong 12 = .ok (.istore_n 2, 1) := by decide +kernel
theorem dX4_shareOfWrong_13 : decode cX4_shareOfWrong 13 = .ok (.iload_n 2, 1) := by decide +kernel
theorem dX4_shareOfWrong_14 : decode cX4_shareOfWrong 14 = .ok (.bipush 8, 2) := by decide +kernel
theorem dX4_shareOfWrong_16 : decode cX4_shareOfWrong 16 = .ok (.if_icmp .ge 17, 3) := by decide +kernel
theorem dX4_shareOfWrong_19 : decode cX4_shareOfWrong 19 = .ok (.iload_n 1, 1) := by decide +kernel
theorem dX4_shareOfWrong_20 : decode cX4_shareOfWrong 20 = .ok (.aload_n 0, 1) := by decide +kernel
theorem dX4_shareOfWrong_21 : decode cX4_shareOfWrong 21 = .ok (.iload_n 2, 1) := by decide +kernel
theorem dX4_shareOfWrong_22 : decode cX4_shareOfWrong 22 = .ok (.invokevirtual 25, 3) := by decide +kernel
theorem dX4_shareOfWrong_25 : decode cX4_shareOfWrong 25 = .ok (.iadd, 1) := by decide +kernel
theorem dX4_shareOfWrong_26 : decode cX4_shareOfWrong 26 = .ok (.istore_n 1, 1) := by decide +kernel
theorem dX4_shareOfWrong_27 : decode cX4_shareOfWrong 27 = .ok (.iinc 2 1, 3) := by decide +kernel
theorem dX4_shareOfWrong_30 : decode cX4_shareOfWrong 30 = .ok (.goto (-17), 3) := by decide +kernel
theorem dX4_shareOfWrong_33 : decode cX4_shareOfWrong 33 = .ok (.iload_n 1, 1) := by decide +kernel
theorem dX4_shareOfWrong_34 : decode cX4_shareOfWrong 34 = .ok (.i2d, 1) := by decide +kernel
theorem dX4_shareOfWrong_35 : decode cX4_shareOfWrong 35 = .ok (.bipush 8, 2) := by decide +kernel
theorem dX4_shareOfWrong_37 : decode cX4_shareOfWrong 37 = .ok (.aload_n 0, 1) := by decide +kernel
theorem dX4_shareOfWrong_38 : decode cX4_shareOfWrong 38 = .ok (.getfield 15, 3) := by decide +kernel
theorem dX4_shareOfWrong_41 : decode cX4_shareOfWrong 41 = .ok (.imul, 1) := by decide +kernel
theorem dX4_shareOfWrong_42 : decode cX4_shareOfWrong 42 = .ok (.i2d, 1) := by decide +kernel
theorem dX4_shareOfWrong_43 : decode cX4_shareOfWrong 43 = .ok (.ddiv, 1) := by decide +kernel
theorem dX4_shareOfWrong_44 : decode cX4_shareOfWrong 44 = .ok (.dreturn, 1) := by decide +kernel
set_option maxRecDepth 20000 in
theorem ggX5_init_X3_init : GoodIn wsX5_init wsX3_init := goodIn_r _ [15, 16, 2, 3, 17, 18, 19, 20, 4, 21, 30] (by decide +kernel) (by decide +kernel)
set_option maxRecDepth 20000 in
theorem gX5_init_X3_init : GoodIn wsX5_init (wsX3_init) := ggX5_init_X3_init
theorem dX5_init_0 : decode cX5_init 0 = .ok (.aload_n 0, 1) := by decide +kernel
theorem dX5_init_1 : decode cX5_init 1 = .ok (.invokespecial 3, 3) := by decide +kernel
theorem dX5_init_4 : decode cX5_init 4 = .ok (.aload_n 0, 1) := by decide +kernel
theorem dX5_init_5 : decode cX5_init 5 = .ok (.bipush 10, 2) := by decide +kernel
theorem dX5_init_7 : decode cX5_init 7 = .ok (.newarray .int, 2) := by decide +kernel
theorem dX5_init_9 : decode cX5_init 9 = .ok (.putfield 9, 3) := by decide +kernel
theorem dX5_init_12 : decode cX5_init 12 = .ok (.aload_n 0, 1) := by decide +kernel
theorem dX5_init_13 : decode cX5_init 13 = .ok (.bipush 10, 2) := by decide +kernel
theorem dX5_init_15 : decode cX5_init 15 = .ok (.newarray .int, 2) := by decide +kernel
theorem dX5_init_17 : decode cX5_init 17 = .ok (.putfield 15, 3) := by decide +kernel
theorem dX5_init_20 : decode cX5_init 20 = .ok (.aload_n 0, 1) := by decide +kernel
theorem dX5_init_21 : decode cX5_init 21 = .ok (.new 18, 3) := by decide +kernel
theorem dX5_init_24 : decode cX5_init 24 = .ok (.dup, 1) := by decide +kernel
theorem dX5_init_25 : decode cX5_init 25 = .ok (.bipush 18, 2) := by decide +kernel
theorem dX5_init_27 : decode cX5_init 27 = .ok (.invokespecial 20, 3) := by decide +kernel
theorem dX5_init_30 : decode cX5_init 30 = .ok (.putfield 23, 3) := by decide +kernel
theorem dX5_init_33 : decode cX5_init 33 = .ok (.aload_n 0, 1) := by decide +kernel
theorem dX5_init_34 : decode cX5_init 34 = .ok (.bipush 16, 2) := by decide +kernel
theorem dX5_init_36 : decode cX5_init 36 = .ok (.newarray .int, 2) := by decide +kernel
theorem dX5_init_38 : decode cX5_init 38 = .ok (.putfield 27, 3) := by decide +kernel
theorem dX5_init_41 : decode cX5_init 41 = .ok (.aload_n 0, 1) := by decide +kernel
theorem dX5_init_42 : decode cX5_init 42 = .ok (.bipush 16, 2) := by decide +kernel
theorem dX5_init_44 : decode cX5_init 44 = .ok (.newarray .int, 2) := by decide +kernel
theorem dX5_init_46 : decode cX5_init 46 = .ok (.putfield 30, 3) := by decide +kernel
theorem dX5_init_49 : decode cX5_init 49 = .ok (.return_, 1) := by decide +kernel
set_option maxRecDepth 20000 in
theorem ggX5_measure_X5_collectCuts : GoodIn wsX5_measure wsX5_collectCuts := goodIn_r _ [8, 9, 10, 1, 11, 12, 13, 14, 15, 16, 17, 18, 19, 20, 21, 22, 23, 24, 25, 26, 27, 28, 29, 30, 31, 32, 33, 34, 35, 36, 37, 38, 39, 40, 41, 104, 105, 106, 107, 108, 109, 110, 111, 112, 113, 114, 115, 116, 117, 118, 119, 120, 121, 122, 123, 124, 125, 126] (by decide +kernel) (by decide +kernel)
set_option maxRecDepth 20000 in
theorem gX5_measure_X5_collectCuts : GoodIn wsX5_measure (wsV RX5 37 RX5 yX5_collectCuts wsX5_collectCuts) := goodIn_app (goodIn_of _ (by decide +kernel)) ggX5_measure_X5_collectCuts
set_option maxRecDepth 20000 in
theorem ggX5_measure_X5_uniteShortedPieces : GoodIn wsX5_measure wsX5_uniteShortedPieces := goodIn_r _ [45, 3, 10, 1, 46, 47, 48, 49, 50, 51, 13, 14, 15, 16, 17, 18, 19, 20, 21, 22, 23, 24, 25, 26, 27, 28, 29, 30, 31, 32, 33, 34, 35, 36, 37, 38, 39, 40, 41, 52, 53, 54, 7, 55, 9, 11, 12, 56, 57, 58, 59, 60, 61, 62, 63, 104, 105, 106, 107, 108, 109, 110, 111, 112, 113, 114, 115, 116, 117, 118, 119, 120, 121, 122, 123, 127, 124, 125, 126] (by decide +kernel) (by decide +kernel)
set_option maxRecDepth 20000 in
theorem gX5_measure_X5_uniteShortedPieces : GoodIn wsX5_measure (wsV RX5 41 RX5 yX5_uniteShortedPieces wsX5_uniteShortedPieces) := goodIn_app (goodIn_of _ (by decide +kernel)) ggX5_measure_X5_uniteShortedPieces
set_option maxRecDepth 20000 in
theorem ggX5_measure_X0_wireAt : GoodIn wsX5_measure wsX0_wireAt := goodIn_r _ [68, 69, 112, 113, 114, 115, 116, 117, 118] (by decide +kernel) (by decide +kernel)
set_option maxRecDepth 20000 in
theorem gX5_measure_X0_wireAt : GoodIn wsX5_measure (wsV RX5 44 RX0 yX0_wireAt wsX0_wireAt) := goodIn_app (goodIn_of _ (by decide +kernel)) ggX5_measure_X0_wireAt
set_option maxRecDepth 20000 in
theorem ggX5_measure_X5_pieceAt : GoodIn wsX5_measure wsX5_pieceAt := goodIn_r _ [55, 9, 11, 12, 104, 105, 106, 107, 108, 109, 110, 111] (by decide +kernel) (by decide +kernel)
set_option maxRecDepth 20000 in
theorem gX5_measure_X5_pieceAt : GoodIn wsX5_measure (wsV RX5 50 RX5 yX5_pieceAt wsX5_pieceAt) := goodIn_app (goodIn_of _ (by decide +kernel)) ggX5_measure_X5_pieceAt
set_option maxRecDepth 20000 in
theorem ggX5_measure_X3_groupOf : GoodIn wsX5_measure wsX3_groupOf := goodIn_r _ [63, 51, 127] (by decide +kernel) (by decide +kernel)
set_option maxRecDepth 20000 in
theorem gX5_measure_X3_groupOf : GoodIn wsX5_measure (wsV RX5 53 RX3 yX3_groupOf wsX3_groupOf) := goodIn_app (goodIn_of _ (by decide +kernel)) ggX5_measure_X3_groupOf
set_option maxRecDepth 20000 in
theorem ggX5_measure_X5_collectMembers : GoodIn wsX5_measure wsX5_collectMembers := goodIn_r _ [74, 75, 2, 104, 105, 106, 107, 108, 109, 110, 111] (by decide +kernel) (by decide +kernel)
set_option maxRecDepth 20000 in
theorem gX5_measure_X5_collectMembers : GoodIn wsX5_measure (wsV RX5 60 RX5 yX5_collectMembers wsX5_collectMembers) := goodIn_app (goodIn_of _ (by decide +kernel)) ggX5_measure_X5_collectMembers
set_option maxRecDepth 20000 in
theorem ggX5_measure_X5_collectWrongPins : GoodIn wsX5_measure wsX5_collectWrongPins := goodIn_r _ [79, 80, 81, 82, 83, 7, 84, 85, 86, 87, 88, 89, 90, 91, 92, 75, 93, 94, 95, 96, 97, 98, 99, 100, 101, 102, 103, 104, 105, 106, 107, 108, 109, 110, 111] (by decide +kernel) (by decide +kernel)
set_option maxRecDepth 20000 in
theorem gX5_measure_X5_collectWrongPins : GoodIn wsX5_measure (wsV RX5 63 RX5 yX5_collectWrongPins wsX5_collectWrongPins) := goodIn_app (goodIn_of _ (by decide +kernel)) ggX5_measure_X5_collectWrongPins
theorem dX5_measure_0 : decode cX5_measure 0 = .ok (.aload_n 0, 1) := by decide +kernel
theorem dX5_measure_1 : decode cX5_measure 1 = .ok (.iload_n 2, 1) := by decide +kernel
theorem dX5_measure_2 : decode cX5_measure 2 = .ok (.putfield 33, 3) := by decide +kernel
theorem dX5_measure_5 : decode cX5_measure 5 = .ok (.aload_n 0, 1) := by decide +kernel
theorem dX5_measure_6 : decode cX5_measure 6 = .ok (.aload_n 1, 1) := by decide +kernel
theorem dX5_measure_7 : decode cX5_measure 7 = .ok (.invokevirtual 37, 3) := by decide +kernel
theorem dX5_measure_10 : decode cX5_measure 10 = .ok (.aload_n 0, 1) := by decide +kernel
theorem dX5_measure_11 : decode cX5_measure 11 = .ok (.aload_n 1, 1) := by decide +kernel
theorem dX5_measure_12 : decode cX5_measure 12 = .ok (.invokevirtual 41, 3) := by decide +kernel
theorem dX5_measure_15 : decode cX5_measure 15 = .ok (.iconst 0, 1) := by decide +kernel
theorem dX5_measure_16 : decode cX5_measure 16 = .ok (.istore_n 3, 1) := by decide +kernel
theorem dX5_measure_17 : decode cX5_measure 17 = .ok (.iload_n 3, 1) := by decide +kernel
theorem dX5_measure_18 : decode cX5_measure 18 = .ok (.bipush 8, 2) := by decide +kernel
theorem dX5_measure_20 : decode cX5_measure 20 = .ok (.if_icmp .ge 63, 3) := by decide +kernel
theorem dX5_measure_23 : decode cX5_measure 23 = .ok (.aload_n 0, 1) := by decide +kernel
theorem dX5_measure_24 : decode cX5_measure 24 = .ok (.getfield 27, 3) := by decide +kernel
theorem dX5_measure_27 : decode cX5_measure 27 = .ok (.iload_n 3, 1) := by decide +kernel
theorem dX5_measure_28 : decode cX5_measure 28 = .ok (.aload_n 0, 1) := by decide +kernel
theorem dX5_measure_29 : decode cX5_measure 29 = .ok (.getfield 23, 3) := by decide +kernel
theorem dX5_measure_32 : decode cX5_measure 32 = .ok (.aload_n 0, 1) := by decide +kernel
theorem dX5_measure_33 : decode cX5_measure 33 = .ok (.aload_n 1, 1) := by decide +kernel
theorem dX5_measure_34 : decode cX5_measure 34 = .ok (.iconst 0, 1) := by decide +kernel
theorem dX5_measure_35 : decode cX5_measure 35 = .ok (.iload_n 3, 1) := by decide +kernel
theorem dX5_measure_36 : decode cX5_measure 36 = .ok (.invokevirtual 44, 3) := by decide +kernel
theorem dX5_measure_39 : decode cX5_measure 39 = .ok (.iconst 0, 1) := by decide +kernel
theorem dX5_measure_40 : decode cX5_measure 40 = .ok (.invokevirtual 50, 3) := by decide +kernel
theorem dX5_measure_43 : decode cX5_measure 43 = .ok (.invokevirtual 53, 3) := by decide +kernel
theorem dX5_measure_46 : decode cX5_measure 46 = .ok (.iastore, 1) := by decide +kernel
theorem dX5_measure_47 : decode cX5_measure 47 = .ok (.aload_n 0, 1) := by decide +kernel
theorem dX5_measure_48 : decode cX5_measure 48 = .ok (.getfield 27, 3) := by decide +kernel
theorem dX5_measure_51 : decode cX5_measure 51 = .ok (.bipush 8, 2) := by decide +kernel
theorem dX5_measure_53 : decode cX5_measure 53 = .ok (.iload_n 3, 1) := by decide +kernel
theorem dX5_measure_54 : decode cX5_measure 54 = .ok (.iadd, 1) := by decide +kernel
theorem dX5_measure_55 : decode cX5_measure 55 = .ok (.aload_n 0, 1) := by decide +kernel
theorem dX5_measure_56 : decode cX5_measure 56 = .ok (.getfield 23, 3) := by decide +kernel
theorem dX5_measure_59 : decode cX5_measure 59 = .ok (.aload_n 0, 1) := by decide +kernel
theorem dX5_measure_60 : decode cX5_measure 60 = .ok (.aload_n 1, 1) := by decide +kernel
theorem dX5_measure_61 : decode cX5_measure 61 = .ok (.iconst 1, 1) := by decide +kernel
theorem dX5_measure_62 : decode cX5_measure 62 = .ok (.iload_n 3, 1) := by decide +kernel
theorem dX5_measure_63 : decode cX5_measure 63 = .ok (.invokevirtual 44, 3) := by decide +kernel
theorem dX5_measure_66 : decode cX5_measure 66 = .ok (.aload_n 1, 1) := by decide +kernel
theorem dX5_measure_67 : decode cX5_measure 67 = .ok (.getfield 57, 3) := by decide +kernel
theorem dX5_measure_70 : decode cX5_measure 70 = .ok (.invokevirtual 50, 3) := by decide +kernel
theorem dX5_measure_73 : decode cX5_measure 73 = .ok (.invokevirtual 53, 3) := by decide +kernel
theorem dX5_measure_76 : decode cX5_measure 76 = .ok (.iastore, 1) := by decide +kernel
theorem dX5_measure_77 : decode cX5_measure 77 = .ok (.iinc 3 1, 3) := by decide +kernel
theorem dX5_measure_80 : decode cX5_measure 80 = .ok (.goto (-63), 3) := by decide +kernel
theorem dX5_measure_83 : decode cX5_measure 83 = .ok (.aload_n 0, 1) := by decide +kernel
theorem dX5_measure_84 : decode cX5_measure 84 = .ok (.invokevirtual 60, 3) := by decide +kernel
theorem dX5_measure_87 : decode cX5_measure 87 = .ok (.aload_n 0, 1) := by decide +kernel
theorem dX5_measure_88 : decode cX5_measure 88 = .ok (.invokevirtual 63, 3) := by decide +kernel
theorem dX5_measure_91 : decode cX5_measure 91 = .ok (.return_, 1) := by decide +kernel
set_option maxRecDepth 20000 in
theorem ggX5_collectCuts_Jx4a65c_size_8abf5 : GoodIn wsX5_collectCuts wsJx4a65c_size_8abf5 := goodIn_r _ [10, 11, 55, 56, 57] (by decide +kernel) (by decide +kernel)
set_option maxRecDepth 20000 in
theorem gX5_collectCuts_Jx4a65c_size_8abf5 : GoodIn wsX5_collectCuts (wsV RX5 73 RJx4a65c yJx4a65c_size_8abf5 wsJx4a65c_size_8abf5) := goodIn_app (goodIn_of _ (by decide +kernel)) ggX5_collectCuts_Jx4a65c_size_8abf5
set_option maxRecDepth 20000 in
theorem ggX5_collectCuts_Jx4a65c_get_915e3 : GoodIn wsX5_collectCuts wsJx4a65c_get_915e3 := goodIn_r _ [15, 11, 16, 17, 18, 19, 20, 21, 22, 23, 24, 25, 26, 9, 27, 28, 55, 56, 57] (by decide +kernel) (by decide +kernel)
set_option maxRecDepth 20000 in
theorem gX5_collectCuts_Jx4a65c_get_915e3 : GoodIn wsX5_collectCuts (wsV RX5 79 RJx4a65c yJx4a65c_get_915e3 wsJx4a65c_get_915e3) := goodIn_app (goodIn_of _ (by decide +kernel)) ggX5_collectCuts_Jx4a65c_get_915e3
set_option maxRecDepth 20000 in
theorem ggX5_collectCuts_X2_isShort : GoodIn wsX5_collectCuts wsX2_isShort := goodIn_r _ [33, 34, 50, 51, 52, 53, 54] (by decide +kernel) (by decide +kernel)
set_option maxRecDepth 20000 in
theorem gX5_collectCuts_X2_isShort : GoodIn wsX5_collectCuts (wsV RX5 85 RX2 yX2_isShort wsX2_isShort) := goodIn_app (goodIn_of _ (by decide +kernel)) ggX5_collectCuts_X2_isShort
theorem dX5_collectCuts_0 : decode cX5_collectCuts 0 = .ok (.aload_n 0, 1) := by decide +kernel
theorem dX5_collectCuts_1 : decode cX5_collectCuts 1 = .ok (.iconst 0, 1) := by decide +kernel
theorem dX5_collectCuts_2 : decode cX5_collectCuts 2 = .ok (.putfield 66, 3) := by decide +kernel
theorem dX5_collectCuts_5 : decode cX5_collectCuts 5 = .ok (.iconst 0, 1) := by decide +kernel
theorem dX5_collectCuts_6 : decode cX5_collectCuts 6 = .ok (.istore_n 2, 1) := by decide +kernel
theorem dX5_collectCuts_7 : decode cX5_collectCuts 7 = .ok (.iload_n 2, 1) := by decide +kernel
theorem dX5_collectCuts_8 : decode cX5_collectCuts 8 = .ok (.aload_n 1, 1) := by decide +kernel
theorem dX5_collectCuts_9 : decode cX5_collectCuts 9 = .ok (.getfield 69, 3) := by decide +kernel
theorem dX5_collectCuts_12 : decode cX5_collectCuts 12 = .ok (.invokevirtual 73, 3) := by decide +kernel
theorem dX5_collectCuts_15 : decode cX5_collectCuts 15 = .ok (.if_icmp .ge 84, 3) := by decide +kernel
theorem dX5_collectCuts_18 : decode cX5_collectCuts 18 = .ok (.aload_n 1, 1) := by decide +kernel
theorem dX5_collectCuts_19 : decode cX5_collectCuts 19 = .ok (.getfield 69, 3) := by decide +kernel
theorem dX5_collectCuts_22 : decode cX5_collectCuts 22 = .ok (.iload_n 2, 1) := by decide +kernel
theorem dX5_collectCuts_23 : decode cX5_collectCuts 23 = .ok (.invokevirtual 79, 3) := by decide +kernel
theorem dX5_collectCuts_26 : decode cX5_collectCuts 26 = .ok (.checkcast 83, 3) := by decide +kernel
theorem dX5_collectCuts_29 : decode cX5_collectCuts 29 = .ok (.astore_n 3, 1) := by decide +kernel
theorem dX5_collectCuts_30 : decode cX5_collectCuts 30 = .ok (.aload_n 0, 1) := by decide +kernel
theorem dX5_collectCuts_31 : decode cX5_collectCuts 31 = .ok (.getfield 33, 3) := by decide +kernel
theorem dX5_collectCuts_34 : decode cX5_collectCuts 34 = .ok (.iload_n 2, 1) := by decide +kernel
theorem dX5_collectCuts_35 : decode cX5_collectCuts 35 = .ok (.ishr, 1) := by decide +kernel
theorem dX5_collectCuts_36 : decode cX5_collectCuts 36 = .ok (.iconst 1, 1) := by decide +kernel
theorem dX5_collectCuts_37 : decode cX5_collectCuts 37 = .ok (.iand, 1) := by decide +kernel
theorem dX5_collectCuts_38 : decode cX5_collectCuts 38 = .ok (.ifCond .eq 55, 3) := by decide +kernel
theorem dX5_collectCuts_41 : decode cX5_collectCuts 41 = .ok (.aload_n 3, 1) := by decide +kernel
theorem dX5_collectCuts_42 : decode cX5_collectCuts 42 = .ok (.invokevirtual 85, 3) := by decide +kernel
theorem dX5_collectCuts_45 : decode cX5_collectCuts 45 = .ok (.ifCond .ne 48, 3) := by decide +kernel
theorem dX5_collectCuts_48 : decode cX5_collectCuts 48 = .ok (.aload_n 0, 1) := by decide +kernel
theorem dX5_collectCuts_49 : decode cX5_collectCuts 49 = .ok (.getfield 66, 3) := by decide +kernel
theorem dX5_collectCuts_52 : decode cX5_collectCuts 52 = .ok (.bipush 10, 2) := by decide +kernel
theorem dX5_collectCuts_54 : decode cX5_collectCuts 54 = .ok (.if_icmp .ge 39, 3) := by decide +kernel
theorem dX5_collectCuts_57 : decode cX5_collectCuts 57 = .ok (.aload_n 0, 1) := by decide +kernel
theorem dX5_collectCuts_58 : decode cX5_collectCuts 58 = .ok (.getfield 9, 3) := by decide +kernel
theorem dX5_collectCuts_61 : decode cX5_collectCuts 61 = .ok (.aload_n 0, 1) := by decide +kernel
theorem dX5_collectCuts_62 : decode cX5_collectCuts 62 = .ok (.getfield 66, 3) := by decide +kernel
theorem dX5_collectCuts_65 : decode cX5_collectCuts 65 = .ok (.aload_n 3, 1) := by decide +kernel
theorem dX5_collectCuts_66 : decode cX5_collectCuts 66 = .ok (.getfield 89, 3) := by decide +kernel
theorem dX5_collectCuts_69 : decode cX5_collectCuts 69 = .ok (.iastore, 1) := by decide +kernel
theorem dX5_collectCuts_70 : decode cX5_collectCuts 70 = .ok (.aload_n 0, 1) := by decide +kernel
theorem dX5_collectCuts_71 : decode cX5_collectCuts 71 = .ok (.getfield 15, 3) := by decide +kernel
theorem dX5_collectCuts_74 : decode cX5_collectCuts 74 = .ok (.aload_n 0, 1) := by decide +kernel
theorem dX5_collectCuts_75 : decode cX5_collectCuts 75 = .ok (.getfield 66, 3) := by decide +kernel
theorem dX5_collectCuts_78 : decode cX5_collectCuts 78 = .ok (.aload_n 3, 1) := by decide +kernel
theorem dX5_collectCuts_79 : decode cX5_collectCuts 79 = .ok (.getfield 92, 3) := by decide +kernel
theorem dX5_collectCuts_82 : decode cX5_collectCuts 82 = .ok (.iastore, 1) := by decide +kernel
theorem dX5_collectCuts_83 : decode cX5_collectCuts 83 = .ok (.aload_n 0, 1) := by decide +kernel
theorem dX5_collectCuts_84 : decode cX5_collectCuts 84 = .ok (.dup, 1) := by decide +kernel
theorem dX5_collectCuts_85 : decode cX5_collectCuts 85 = .ok (.getfield 66, 3) := by decide +kernel
theorem dX5_collectCuts_88 : decode cX5_collectCuts 88 = .ok (.iconst 1, 1) := by decide +kernel
theorem dX5_collectCuts_89 : decode cX5_collectCuts 89 = .ok (.iadd, 1) := by decide +kernel
theorem dX5_collectCuts_90 : decode cX5_collectCuts 90 = .ok (.putfield 66, 3) := by decide +kernel
theorem dX5_collectCuts_93 : decode cX5_collectCuts 93 = .ok (.iinc 2 1, 3) := by decide +kernel
theorem dX5_collectCuts_96 : decode cX5_collectCuts 96 = .ok (.goto (-89), 3) := by decide +kernel
theorem dX5_collectCuts_99 : decode cX5_collectCuts 99 = .ok (.return_, 1) := by decide +kernel
set_option maxRecDepth 20000 in
theorem ggX5_uniteShortedPieces_X3_separate : GoodIn wsX5_uniteShortedPieces wsX3_separate := goodIn_r _ [8, 9, 75] (by decide +kernel) (by decide +kernel)
set_option maxRecDepth 20000 in
theorem gX5_uniteShortedPieces_X3_separate : GoodIn wsX5_uniteShortedPieces (wsV RX5 95 RX3 yX3_separate wsX3_separate) := goodIn_app (goodIn_of _ (by decide +kernel)) ggX5_uniteShortedPieces_X3_separate
set_option maxRecDepth 20000 in
theorem ggX5_uniteShortedPieces_Jx4a65c_size_8abf5 : GoodIn wsX5_uniteShortedPieces wsJx4a65c_size_8abf5 := goodIn_r _ [14, 15, 76, 77, 78] (by decide +kernel) (by decide +kernel)
set_option maxRecDepth 20000 in
theorem gX5_uniteShortedPieces_Jx4a65c_size_8abf5 : GoodIn wsX5_uniteShortedPieces (wsV RX5 73 RJx4a65c yJx4a65c_size_8abf5 wsJx4a65c_size_8abf5) := goodIn_app (goodIn_of _ (by decide +kernel)) ggX5_uniteShortedPieces_Jx4a65c_size_8abf5
set_option maxRecDepth 20000 in
theorem ggX5_uniteShortedPieces_Jx4a65c_get_915e3 : GoodIn wsX5_uniteShortedPieces wsJx4a65c_get_915e3 := goodIn_r _ [19, 15, 20, 21, 22, 23, 24, 25, 26, 27, 28, 29, 30, 13, 31, 32, 76, 77, 78] (by decide +kernel) (by decide +kernel)
set_option maxRecDepth 20000 in
theorem gX5_uniteShortedPieces_Jx4a65c_get_915e3 : GoodIn wsX5_uniteShortedPieces (wsV RX5 79 RJx4a65c yJx4a65c_get_915e3 wsJx4a65c_get_915e3) := goodIn_app (goodIn_of _ (by decide +kernel)) ggX5_uniteShortedPieces_Jx4a65c_get_915e3
set_option maxRecDepth 20000 in
theorem ggX5_uniteShortedPieces_X2_isShort : GoodIn wsX5_uniteShortedPieces wsX2_isShort := goodIn_r _ [37, 38, 70, 71, 72, 73, 74] (by decide +kernel) (by decide +kernel)
set_option maxRecDepth 20000 in
theorem gX5_uniteShortedPieces_X2_isShort : GoodIn wsX5_uniteShortedPieces (wsV RX5 85 RX2 yX2_isShort wsX2_isShort) := goodIn_app (goodIn_of _ (by decide +kernel)) ggX5_uniteShortedPieces_X2_isShort
set_option maxRecDepth 20000 in
theorem ggX5_uniteShortedPieces_X5_pieceAt : GoodIn wsX5_uniteShortedPieces wsX5_pieceAt := goodIn_r _ [43, 44, 45, 46, 55, 56, 57, 58, 59, 60, 61, 62] (by decide +kernel) (by decide +kernel)
set_option maxRecDepth 20000 in
theorem gX5_uniteShortedPieces_X5_pieceAt : GoodIn wsX5_uniteShortedPieces (wsV RX5 50 RX5 yX5_pieceAt wsX5_pieceAt) := goodIn_app (goodIn_of _ (by decide +kernel)) ggX5_uniteShortedPieces_X5_pieceAt
set_option maxRecDepth 20000 in
theorem ggX5_uniteShortedPieces_X3_unite : GoodIn wsX5_uniteShortedPieces wsX3_unite := goodIn_r _ [50, 9, 51, 52, 53, 7, 54, 75] (by decide +kernel) (by decide +kernel)
set_option maxRecDepth 20000 in
theorem gX5_uniteShortedPieces_X3_unite : GoodIn wsX5_uniteShortedPieces (wsV RX5 101 RX3 yX3_unite wsX3_unite) := goodIn_app (goodIn_of _ (by decide +kernel)) ggX5_uniteShortedPieces_X3_unite
theorem dX5_uniteShortedPieces_0 : decode cX5_uniteShortedPieces 0 = .ok (.aload_n 0, 1) := by decide +kernel
theorem dX5_uniteShortedPieces_1 : decode cX5_uniteShortedPieces 1 = .ok (.getfield 23, 3) := by decide +kernel
theorem dX5_uniteShortedPieces_4 : decode cX5_uniteShortedPieces 4 = .ok (.invokevirtual 95, 3) := by decide +kernel
theorem dX5_uniteShortedPieces_7 : decode cX5_uniteShortedPieces 7 = .ok (.iconst 0, 1) := by decide +kernel
theorem dX5_uniteShortedPieces_8 : decode cX5_uniteShortedPieces 8 = .ok (.istore_n 2, 1) := by decide +kernel
theorem dX5_uniteShortedPieces_9 : decode cX5_uniteShortedPieces 9 = .ok (.iload_n 2, 1) := by decide +kernel
theorem dX5_uniteShortedPieces_10 : decode cX5_uniteShortedPieces 10 = .ok (.aload_n 1, 1) := by decide +kernel
theorem dX5_uniteShortedPieces_11 : decode cX5_uniteShortedPieces 11 = .ok (.getfield 69, 3) := by decide +kernel
theorem dX5_uniteShortedPieces_14 : decode cX5_uniteShortedPieces 14 = .ok (.invokevirtual 73, 3) := by decide +kernel
theorem dX5_uniteShortedPieces_17 : decode cX5_uniteShortedPieces 17 = .ok (.if_icmp .ge 71, 3) := by decide +kernel
theorem dX5_uniteShortedPieces_20 : decode cX5_uniteShortedPieces 20 = .ok (.aload_n 1, 1) := by decide +kernel
theorem dX5_uniteShortedPieces_21 : decode cX5_uniteShortedPieces 21 = .ok (.getfield 69, 3) := by decide +kernel
theorem dX5_uniteShortedPieces_24 : decode cX5_uniteShortedPieces 24 = .ok (.iload_n 2, 1) := by decide +kernel
theorem dX5_uniteShortedPieces_25 : decode cX5_uniteShortedPieces 25 = .ok (.invokevirtual 79, 3) := by decide +kernel
theorem dX5_uniteShortedPieces_28 : decode cX5_uniteShortedPieces 28 = .ok (.checkcast 83, 3) := by decide +kernel
theorem dX5_uniteShortedPieces_31 : decode cX5_uniteShortedPieces 31 = .ok (.astore_n 3, 1) := by decide +kernel
theorem dX5_uniteShortedPieces_32 : decode cX5_uniteShortedPieces 32 = .ok (.aload_n 0, 1) := by decide +kernel
theorem dX5_uniteShortedPieces_33 : decode cX5_uniteShortedPieces 33 = .ok (.getfield 33, 3) := by decide +kernel
theorem dX5_uniteShortedPieces_36 : decode cX5_uniteShortedPieces 36 = .ok (.iload_n 2, 1) := by decide +kernel
theorem dX5_uniteShortedPieces_37 : decode cX5_uniteShortedPieces 37 = .ok (.ishr, 1) := by decide +kernel
theorem dX5_uniteShortedPieces_38 : decode cX5_uniteShortedPieces 38 = .ok (.iconst 1, 1) := by decide +kernel
theorem dX5_uniteShortedPieces_39 : decode cX5_uniteShortedPieces 39 = .ok (.iand, 1) := by decide +kernel
theorem dX5_uniteShortedPieces_40 : decode cX5_uniteShortedPieces 40 = .ok (.ifCond .eq 42, 3) := by decide +kernel
theorem dX5_uniteShortedPieces_43 : decode cX5_uniteShortedPieces 43 = .ok (.aload_n 3, 1) := by decide +kernel
theorem dX5_uniteShortedPieces_44 : decode cX5_uniteShortedPieces 44 = .ok (.invokevirtual 85, 3) := by decide +kernel
theorem dX5_uniteShortedPieces_47 : decode cX5_uniteShortedPieces 47 = .ok (.ifCond .eq 35, 3) := by decide +kernel
theorem dX5_uniteShortedPieces_50 : decode cX5_uniteShortedPieces 50 = .ok (.aload_n 0, 1) := by decide +kernel
theorem dX5_uniteShortedPieces_51 : decode cX5_uniteShortedPieces 51 = .ok (.getfield 23, 3) := by decide +kernel
theorem dX5_uniteShortedPieces_54 : decode cX5_uniteShortedPieces 54 = .ok (.aload_n 0, 1) := by decide +kernel
theorem dX5_uniteShortedPieces_55 : decode cX5_uniteShortedPieces 55 = .ok (.aload_n 3, 1) := by decide +kernel
theorem dX5_uniteShortedPieces_56 : decode cX5_uniteShortedPieces 56 = .ok (.getfield 89, 3) := by decide +kernel
theorem dX5_uniteShortedPieces_59 : decode cX5_uniteShortedPieces 59 = .ok (.aload_n 3, 1) := by decide +kernel
theorem dX5_uniteShortedPieces_60 : decode cX5_uniteShortedPieces 60 = .ok (.getfield 92, 3) := by decide +kernel
theorem dX5_uniteShortedPieces_63 : decode cX5_uniteShortedPieces 63 = .ok (.invokevirtual 50, 3) := by decide +kernel
theorem dX5_uniteShortedPieces_66 : decode cX5_uniteShortedPieces 66 = .ok (.aload_n 0, 1) := by decide +kernel
theorem dX5_uniteShortedPieces_67 : decode cX5_uniteShortedPieces 67 = .ok (.aload_n 3, 1) := by decide +kernel
theorem dX5_uniteShortedPieces_68 : decode cX5_uniteShortedPieces 68 = .ok (.getfield 98, 3) := by decide +kernel
theorem dX5_uniteShortedPieces_71 : decode cX5_uniteShortedPieces 71 = .ok (.aload_n 3, 1) := by decide +kernel
theorem dX5_uniteShortedPieces_72 : decode cX5_uniteShortedPieces 72 = .ok (.getfield 92, 3) := by decide +kernel
theorem dX5_uniteShortedPieces_75 : decode cX5_uniteShortedPieces 75 = .ok (.invokevirtual 50, 3) := by decide +kernel
theorem dX5_uniteShortedPieces_78 : decode cX5_uniteShortedPieces 78 = .ok (.invokevirtual 101, 3) := by decide +kernel
theorem dX5_uniteShortedPieces_81 : decode cX5_uniteShortedPieces 81 = .ok (.pop, 1) := by decide +kernel
theorem dX5_uniteShortedPieces_82 : decode cX5_uniteShortedPieces 82 = .ok (.iinc 2 1, 3) := by decide +kernel
theorem dX5_uniteShortedPieces_85 : decode cX5_uniteShortedPieces 85 = .ok (.goto (-76), 3) := by decide +kernel
theorem dX5_uniteShortedPieces_88 : decode cX5_uniteShortedPieces 88 = .ok (.return_, 1) := by decide +kernel
theorem dX5_pieceAt_0 : decode cX5_pieceAt 0 = .ok (.iload_n 1, 1) := by decide +kernel
theorem dX5_pieceAt_1 : decode cX5_pieceAt 1 = .ok (.istore_n 3, 1) := by decide +kernel
theorem dX5_pieceAt_2 : decode cX5_pieceAt 2 = .ok (.iconst 0, 1) := by decide +kernel
theorem dX5_pieceAt_3 : decode cX5_pieceAt 3 = .ok (.istore 4, 2) := by decide +kernel
theorem dX5_pieceAt_5 : decode cX5_pieceAt 5 = .ok (.iload 4, 2) := by decide +kernel
theorem dX5_pieceAt_7 : decode cX5_pieceAt 7 = .ok (.aload_n 0, 1) := by decide +kernel
theorem dX5_pieceAt_8 : decode cX5_pieceAt 8 = .ok (.getfield 66, 3) := by decide +kernel
theorem dX5_pieceAt_11 : decode cX5_pieceAt 11 = .ok (.if_icmp .ge 52, 3) := by decide +kernel
theorem dX5_pieceAt_14 : decode cX5_pieceAt 14 = .ok (.iload 4, 2) := by decide +kernel
theorem dX5_pieceAt_16 : decode cX5_pieceAt 16 = .ok (.bipush 10, 2) := by decide +kernel
theorem dX5_pieceAt_18 : decode cX5_pieceAt 18 = .ok (.if_icmp .ge 45, 3) := by decide +kernel
theorem dX5_pieceAt_21 : decode cX5_pieceAt 21 = .ok (.aload_n 0, 1) := by decide +kernel
theorem dX5_pieceAt_22 : decode cX5_pieceAt 22 = .ok (.getfield 9, 3) := by decide +kernel
theorem dX5_pieceAt_25 : decode cX5_pieceAt 25 = .ok (.iload 4, 2) := by decide +kernel
theorem dX5_pieceAt_27 : decode cX5_pieceAt 27 = .ok (.iaload, 1) := by decide +kernel
theorem dX5_pieceAt_28 : decode cX5_pieceAt 28 = .ok (.iload_n 1, 1) := by decide +kernel
theorem dX5_pieceAt_29 : decode cX5_pieceAt 29 = .ok (.if_icmp .lt 25, 3) := by decide +kernel
theorem dX5_pieceAt_32 : decode cX5_pieceAt 32 = .ok (.aload_n 0, 1) := by decide +kernel
theorem dX5_pieceAt_33 : decode cX5_pieceAt 33 = .ok (.getfield 9, 3) := by decide +kernel
theorem dX5_pieceAt_36 : decode cX5_pieceAt 36 = .ok (.iload 4, 2) := by decide +kernel
theorem dX5_pieceAt_38 : decode cX5_pieceAt 38 = .ok (.iaload, 1) := by decide +kernel
theorem dX5_pieceAt_39 : decode cX5_pieceAt 39 = .ok (.iload_n 1, 1) := by decide +kernel
theorem dX5_pieceAt_40 : decode cX5_pieceAt 40 = .ok (.if_icmp .ne 17, 3) := by decide +kernel
theorem dX5_pieceAt_43 : decode cX5_pieceAt 43 = .ok (.aload_n 0, 1) := by decide +kernel
theorem dX5_pieceAt_44 : decode cX5_pieceAt 44 = .ok (.getfield 15, 3) := by decide +kernel
theorem dX5_pieceAt_47 : decode cX5_pieceAt 47 = .ok (.iload 4, 2) := by decide +kernel
theorem dX5_pieceAt_49 : decode cX5_pieceAt 49 = .ok (.iaload, 1) := by decide +kernel
theorem dX5_pieceAt_50 : decode cX5_pieceAt 50 = .ok (.iload_n 2, 1) := by decide +kernel
theorem dX5_pieceAt_51 : decode cX5_pieceAt 51 = .ok (.if_icmp .ge 6, 3) := by decide +kernel
theorem dX5_pieceAt_54 : decode cX5_pieceAt 54 = .ok (.iinc 3 1, 3) := by decide +kernel
theorem dX5_pieceAt_57 : decode cX5_pieceAt 57 = .ok (.iinc 4 1, 3) := by decide +kernel
theorem dX5_pieceAt_60 : decode cX5_pieceAt 60 = .ok (.goto (-55), 3) := by decide +kernel
theorem dX5_pieceAt_63 : decode cX5_pieceAt 63 = .ok (.iload_n 3, 1) := by decide +kernel
theorem dX5_pieceAt_64 : decode cX5_pieceAt 64 = .ok (.ireturn, 1) := by decide +kernel
theorem dX5_collectMembers_0 : decode cX5_collectMembers 0 = .ok (.iconst 0, 1) := by decide +kernel
theorem dX5_collectMembers_1 : decode cX5_collectMembers 1 = .ok (.istore_n 1, 1) := by decide +kernel
theorem dX5_collectMembers_2 : decode cX5_collectMembers 2 = .ok (.iload_n 1, 1) := by decide +kernel
theorem dX5_collectMembers_3 : decode cX5_collectMembers 3 = .ok (.bipush 16, 2) := by decide +kernel
theorem dX5_collectMembers_5 : decode cX5_collectMembers 5 = .ok (.if_icmp .ge 70, 3) := by decide +kernel
theorem dX5_collectMembers_8 : decode cX5_collectMembers 8 = .ok (.aload_n 0, 1) := by decide +kernel
theorem dX5_collectMembers_9 : decode cX5_collectMembers 9 = .ok (.getfield 30, 3) := by decide +kernel
theorem dX5_collectMembers_12 : decode cX5_collectMembers 12 = .ok (.iload_n 1, 1) := by decide +kernel
theorem dX5_collectMembers_13 : decode cX5_collectMembers 13 = .ok (.iconst 1, 1) := by decide +kernel
theorem dX5_collectMembers_14 : decode cX5_collectMembers 14 = .ok (.iload_n 1, 1) := by decide +kernel
theorem dX5_collectMembers_15 : decode cX5_collectMembers 15 = .ok (.ishl, 1) := by decide +kernel
theorem dX5_collectMembers_16 : decode cX5_collectMembers 16 = .ok (.iastore, 1) := by decide +kernel
theorem dX5_collectMembers_17 : decode cX5_collectMembers 17 = .ok (.iconst 0, 1) := by decide +kernel
theorem dX5_collectMembers_18 : decode cX5_collectMembers 18 = .ok (.istore_n 2, 1) := by decide +kernel
theorem dX5_collectMembers_19 : decode cX5_collectMembers 19 = .ok (.iload_n 2, 1) := by decide +kernel
theorem dX5_collectMembers_20 : decode cX5_collectMembers 20 = .ok (.iload_n 1, 1) := by decide +kernel
theorem dX5_collectMembers_21 : decode cX5_collectMembers 21 = .ok (.if_icmp .ge 48, 3) := by decide +kernel
theorem dX5_collectMembers_24 : decode cX5_collectMembers 24 = .ok (.aload_n 0, 1) := by decide +kernel
theorem dX5_collectMembers_25 : decode cX5_collectMembers 25 = .ok (.getfield 27, 3) := by decide +kernel
theorem dX5_collectMembers_28 : decode cX5_collectMembers 28 = .ok (.iload_n 1, 1) := by decide +kernel
theorem dX5_collectMembers_29 : decode cX5_collectMembers 29 = .ok (.iaload, 1) := by decide +kernel
theorem dX5_collectMembers_30 : decode cX5_collectMembers 30 = .ok (.aload_n 0, 1) := by decide +kernel
theorem dX5_collectMembers_31 : decode cX5_collectMembers 31 = .ok (.getfield 27, 3) := by decide +kernel
theorem dX5_collectMembers_34 : decode cX5_collectMembers 34 = .ok (.iload_n 2, 1) := by decide +kernel
theorem dX5_collectMembers_35 : decode cX5_collectMembers 35 = .ok (.iaload, 1) := by decide +kernel
theorem dX5_collectMembers_36 : decode cX5_collectMembers 36 = .ok (.if_icmp .ne 27, 3) := by decide +kernel
theorem dX5_collectMembers_39 : decode cX5_collectMembers 39 = .ok (.aload_n 0, 1) := by decide +kernel
theorem dX5_collectMembers_40 : decode cX5_collectMembers 40 = .ok (.getfield 30, 3) := by decide +kernel
theorem dX5_collectMembers_43 : decode cX5_collectMembers 43 = .ok (.iload_n 1, 1) := by decide +kernel
theorem dX5_collectMembers_44 : decode cX5_collectMembers 44 = .ok (.dup2, 1) := by decide +kernel
theorem dX5_collectMembers_45 : decode cX5_collectMembers 45 = .ok (.iaload, 1) := by decide +kernel
theorem dX5_collectMembers_46 : decode cX5_collectMembers 46 = .ok (.iconst 1, 1) := by decide +kernel
theorem dX5_collectMembers_47 : decode cX5_collectMembers 47 = .ok (.iload_n 2, 1) := by decide +kernel
theorem dX5_collectMembers_48 : decode cX5_collectMembers 48 = .ok (.ishl, 1) := by decide +kernel
theorem dX5_collectMembers_49 : decode cX5_collectMembers 49 = .ok (.ior, 1) := by decide +kernel
theorem dX5_collectMembers_50 : decode cX5_collectMembers 50 = .ok (.iastore, 1) := by decide +kernel
theorem dX5_collectMembers_51 : decode cX5_collectMembers 51 = .ok (.aload_n 0, 1) := by decide +kernel
theorem dX5_collectMembers_52 : decode cX5_collectMembers 52 = .ok (.getfield 30, 3) := by decide +kernel
theorem dX5_collectMembers_55 : decode cX5_collectMembers 55 = .ok (.iload_n 2, 1) := by decide +kernel
theorem dX5_collectMembers_56 : decode cX5_collectMembers 56 = .ok (.dup2, 1) := by decide +kernel
theorem dX5_collectMembers_57 : decode cX5_collectMembers 57 = .ok (.iaload, 1) := by decide +kernel
theorem dX5_collectMembers_58 : decode cX5_collectMembers 58 = .ok (.iconst 1, 1) := by decide +kernel
theorem dX5_collectMembers_59 : decode cX5_collectMembers 59 = .ok (.iload_n 1, 1) := by decide +kernel
theorem dX5_collectMembers_60 : decode cX5_collectMembers 60 = .ok (.ishl, 1) := by decide +kernel
theorem dX5_collectMembers_61 : decode cX5_collectMembers 61 = .ok (.ior, 1) := by decide +kernel
theorem dX5_collectMembers_62 : decode cX5_collectMembers 62 = .ok (.iastore, 1) := by decide +kernel
theorem dX5_collectMembers_63 : decode cX5_collectMembers 63 = .ok (.iinc 2 1, 3) := by decide +kernel
theorem dX5_collectMembers_66 : decode cX5_collectMembers 66 = .ok (.goto (-47), 3) := by decide +kernel
theorem dX5_collectMembers_69 : decode cX5_collectMembers 69 = .ok (.iinc 1 1, 3) := by decide +kernel
theorem dX5_collectMembers_72 : decode cX5_collectMembers 72 = .ok (.goto (-70), 3) := by decide +kernel
theorem dX5_collectMembers_75 : decode cX5_collectMembers 75 = .ok (.return_, 1) := by decide +kernel
set_option maxRecDepth 20000 in
theorem ggX5_collectWrongPins_X5_statusOf : GoodIn wsX5_collectWrongPins wsX5_statusOf := goodIn_r _ [6, 7, 8, 9, 5, 10, 11, 12, 13, 14, 15, 16, 17, 18, 19, 20, 21, 22, 23, 24, 25, 26, 27, 28, 29, 30, 31, 32, 33, 34] (by decide +kernel) (by decide +kernel)
set_option maxRecDepth 20000 in
theorem gX5_collectWrongPins_X5_statusOf : GoodIn wsX5_collectWrongPins (wsV RX5 108 RX5 yX5_statusOf wsX5_statusOf) := goodIn_app (goodIn_of _ (by decide +kernel)) ggX5_collectWrongPins_X5_statusOf
theorem dX5_collectWrongPins_0 : decode cX5_collectWrongPins 0 = .ok (.aload_n 0, 1) := by decide +kernel
theorem dX5_collectWrongPins_1 : decode cX5_collectWrongPins 1 = .ok (.iconst 0, 1) := by decide +kernel
theorem dX5_collectWrongPins_2 : decode cX5_collectWrongPins 2 = .ok (.putfield 105, 3) := by decide +kernel
theorem dX5_collectWrongPins_5 : decode cX5_collectWrongPins 5 = .ok (.iconst 0, 1) := by decide +kernel
theorem dX5_collectWrongPins_6 : decode cX5_collectWrongPins 6 = .ok (.istore_n 1, 1) := by decide +kernel
theorem dX5_collectWrongPins_7 : decode cX5_collectWrongPins 7 = .ok (.iload_n 1, 1) := by decide +kernel
theorem dX5_collectWrongPins_8 : decode cX5_collectWrongPins 8 = .ok (.bipush 8, 2) := by decide +kernel
theorem dX5_collectWrongPins_10 : decode cX5_collectWrongPins 10 = .ok (.if_icmp .ge 29, 3) := by decide +kernel
theorem dX5_collectWrongPins_13 : decode cX5_collectWrongPins 13 = .ok (.aload_n 0, 1) := by decide +kernel
theorem dX5_collectWrongPins_14 : decode cX5_collectWrongPins 14 = .ok (.iload_n 1, 1) := by decide +kernel
theorem dX5_collectWrongPins_15 : decode cX5_collectWrongPins 15 = .ok (.invokevirtual 108, 3) := by decide +kernel
theorem dX5_collectWrongPins_18 : decode cX5_collectWrongPins 18 = .ok (.ifCond .eq 15, 3) := by decide +kernel
theorem dX5_collectWrongPins_21 : decode cX5_collectWrongPins 21 = .ok (.aload_n 0, 1) := by decide +kernel
theorem dX5_collectWrongPins_22 : decode cX5_collectWrongPins 22 = .ok (.dup, 1) := by decide +kernel
theorem dX5_collectWrongPins_23 : decode cX5_collectWrongPins 23 = .ok (.getfield 105, 3) := by decide +kernel
theorem dX5_collectWrongPins_26 : decode cX5_collectWrongPins 26 = .ok (.iconst 1, 1) := by decide +kernel
theorem dX5_collectWrongPins_27 : decode cX5_collectWrongPins 27 = .ok (.iload_n 1, 1) := by decide +kernel
theorem dX5_collectWrongPins_28 : decode cX5_collectWrongPins 28 = .ok (.ishl, 1) := by decide +kernel
theorem dX5_collectWrongPins_29 : decode cX5_collectWrongPins 29 = .ok (.ior, 1) := by decide +kernel
theorem dX5_collectWrongPins_30 : decode cX5_collectWrongPins 30 = .ok (.putfield 105, 3) := by decide +kernel
theorem dX5_collectWrongPins_33 : decode cX5_collectWrongPins 33 = .ok (.iinc 1 1, 3) := by decide +kernel
theorem dX5_collectWrongPins_36 : decode cX5_collectWrongPins 36 = .ok (.goto (-29), 3) := by decide +kernel
theorem dX5_collectWrongPins_39 : decode cX5_collectWrongPins 39 = .ok (.return_, 1) := by decide +kernel
theorem dX5_membersWith_0 : decode cX5_membersWith 0 = .ok (.iload_n 1, 1) := by decide +kernel
theorem dX5_membersWith_1 : decode cX5_membersWith 1 = .ok (.ifCond .lt 21, 3) := by decide +kernel
theorem dX5_membersWith_4 : decode cX5_membersWith 4 = .ok (.iload_n 1, 1) := by decide +kernel
theorem dX5_membersWith_5 : decode cX5_membersWith 5 = .ok (.aload_n 0, 1) := by decide +kernel
theorem dX5_membersWith_6 : decode cX5_membersWith 6 = .ok (.getfield 30, 3) := by decide +kernel
theorem dX5_membersWith_9 : decode cX5_membersWith 9 = .ok (.arraylength, 1) := by decide +kernel
theorem dX5_membersWith_10 : decode cX5_membersWith 10 = .ok (.if_icmp .ge 12, 3) := by decide +kernel
theorem dX5_membersWith_13 : decode cX5_membersWith 13 = .ok (.aload_n 0, 1) := by decide +kernel
theorem dX5_membersWith_14 : decode cX5_membersWith 14 = .ok (.getfield 30, 3) := by decide +kernel
theorem dX5_membersWith_17 : decode cX5_membersWith 17 = .ok (.iload_n 1, 1) := by decide +kernel
theorem dX5_membersWith_18 : decode cX5_membersWith 18 = .ok (.iaload, 1) := by decide +kernel
theorem dX5_membersWith_19 : decode cX5_membersWith 19 = .ok (.goto 4, 3) := by decide +kernel
theorem dX5_membersWith_22 : decode cX5_membersWith 22 = .ok (.iconst 0, 1) := by decide +kernel
theorem dX5_membersWith_23 : decode cX5_membersWith 23 = .ok (.ireturn, 1) := by decide +kernel
set_option maxRecDepth 20000 in
theorem ggX5_nearPinsWith_X5_membersWith : GoodIn wsX5_nearPinsWith wsX5_membersWith := goodIn_r _ [5, 6, 7, 8, 9, 10, 11, 12, 13, 14] (by decide +kernel) (by decide +kernel)
set_option maxRecDepth 20000 in
theorem gX5_nearPinsWith_X5_membersWith : GoodIn wsX5_nearPinsWith (wsV RX5 111 RX5 yX5_membersWith wsX5_membersWith) := goodIn_app (goodIn_of _ (by decide +kernel)) ggX5_nearPinsWith_X5_membersWith
theorem dX5_nearPinsWith_0 : decode cX5_nearPinsWith 0 = .ok (.aload_n 0, 1) := by decide +kernel
theorem dX5_nearPinsWith_1 : decode cX5_nearPinsWith 1 = .ok (.iload_n 1, 1) := by decide +kernel
theorem dX5_nearPinsWith_2 : decode cX5_nearPinsWith 2 = .ok (.bipush 8, 2) := by decide +kernel
theorem dX5_nearPinsWith_4 : decode cX5_nearPinsWith 4 = .ok (.imul, 1) := by decide +kernel
theorem dX5_nearPinsWith_5 : decode cX5_nearPinsWith 5 = .ok (.iload_n 2, 1) := by decide +kernel
theorem dX5_nearPinsWith_6 : decode cX5_nearPinsWith 6 = .ok (.iadd, 1) := by decide +kernel
theorem dX5_nearPinsWith_7 : decode cX5_nearPinsWith 7 = .ok (.invokevirtual 111, 3) := by decide +kernel
theorem dX5_nearPinsWith_10 : decode cX5_nearPinsWith 10 = .ok (.sipush 255, 3) := by decide +kernel
theorem dX5_nearPinsWith_13 : decode cX5_nearPinsWith 13 = .ok (.iand, 1) := by decide +kernel
theorem dX5_nearPinsWith_14 : decode cX5_nearPinsWith 14 = .ok (.ireturn, 1) := by decide +kernel
set_option maxRecDepth 20000 in
theorem ggX5_farPinsWith_X5_membersWith : GoodIn wsX5_farPinsWith wsX5_membersWith := goodIn_r _ [5, 6, 7, 8, 9, 10, 11, 12, 13, 14] (by decide +kernel) (by decide +kernel)
set_option maxRecDepth 20000 in
theorem gX5_farPinsWith_X5_membersWith : GoodIn wsX5_farPinsWith (wsV RX5 111 RX5 yX5_membersWith wsX5_membersWith) := goodIn_app (goodIn_of _ (by decide +kernel)) ggX5_farPinsWith_X5_membersWith
theorem dX5_farPinsWith_0 : decode cX5_farPinsWith 0 = .ok (.aload_n 0, 1) := by decide +kernel
theorem dX5_farPinsWith_1 : decode cX5_farPinsWith 1 = .ok (.iload_n 1, 1) := by decide +kernel
theorem dX5_farPinsWith_2 : decode cX5_farPinsWith 2 = .ok (.bipush 8, 2) := by decide +kernel
theorem dX5_farPinsWith_4 : decode cX5_farPinsWith 4 = .ok (.imul, 1) := by decide +kernel
theorem dX5_farPinsWith_5 : decode cX5_farPinsWith 5 = .ok (.iload_n 2, 1) := by decide +kernel
theorem dX5_farPinsWith_6 : decode cX5_farPinsWith 6 = .ok (.iadd, 1) := by decide +kernel
theorem dX5_farPinsWith_7 : decode cX5_farPinsWith 7 = .ok (.invokevirtual 111, 3) := by decide +kernel
theorem dX5_farPinsWith_10 : decode cX5_farPinsWith 10 = .ok (.bipush 8, 2) := by decide +kernel
theorem dX5_farPinsWith_12 : decode cX5_farPinsWith 12 = .ok (.ishr, 1) := by decide +kernel
theorem dX5_farPinsWith_13 : decode cX5_farPinsWith 13 = .ok (.ireturn, 1) := by decide +kernel
set_option maxRecDepth 20000 in
theorem ggX5_joinedPins_X5_nearPinsWith : GoodIn wsX5_joinedPins wsX5_nearPinsWith := goodIn_r _ [5, 6, 7, 8, 4, 9, 10, 15, 16, 17, 18, 19, 20, 21, 22] (by decide +kernel) (by decide +kernel)
set_option maxRecDepth 20000 in
theorem gX5_joinedPins_X5_nearPinsWith : GoodIn wsX5_joinedPins (wsV RX5 114 RX5 yX5_nearPinsWith wsX5_nearPinsWith) := goodIn_app (goodIn_of _ (by decide +kernel)) ggX5_joinedPins_X5_nearPinsWith
set_option maxRecDepth 20000 in
theorem ggX5_joinedPins_X5_farPinsWith : GoodIn wsX5_joinedPins wsX5_farPinsWith := goodIn_r _ [14, 6, 7, 8, 4, 9, 10, 15, 16, 17, 18, 19, 20, 21, 22] (by decide +kernel) (by decide +kernel)
set_option maxRecDepth 20000 in
theorem gX5_joinedPins_X5_farPinsWith : GoodIn wsX5_joinedPins (wsV RX5 117 RX5 yX5_farPinsWith wsX5_farPinsWith) := goodIn_app (goodIn_of _ (by decide +kernel)) ggX5_joinedPins_X5_farPinsWith
theorem dX5_joinedPins_0 : decode cX5_joinedPins 0 = .ok (.iload_n 3, 1) := by decide +kernel
theorem dX5_joinedPins_1 : decode cX5_joinedPins 1 = .ok (.ifCond .ne 12, 3) := by decide +kernel
theorem dX5_joinedPins_4 : decode cX5_joinedPins 4 = .ok (.aload_n 0, 1) := by decide +kernel
theorem dX5_joinedPins_5 : decode cX5_joinedPins 5 = .ok (.iload_n 1, 1) := by decide +kernel
theorem dX5_joinedPins_6 : decode cX5_joinedPins 6 = .ok (.iload_n 2, 1) := by decide +kernel
theorem dX5_joinedPins_7 : decode cX5_joinedPins 7 = .ok (.invokevirtual 114, 3) := by decide +kernel
theorem dX5_joinedPins_10 : decode cX5_joinedPins 10 = .ok (.goto 9, 3) := by decide +kernel
theorem dX5_joinedPins_13 : decode cX5_joinedPins 13 = .ok (.aload_n 0, 1) := by decide +kernel
theorem dX5_joinedPins_14 : decode cX5_joinedPins 14 = .ok (.iload_n 1, 1) := by decide +kernel
theorem dX5_joinedPins_15 : decode cX5_joinedPins 15 = .ok (.iload_n 2, 1) := by decide +kernel
theorem dX5_joinedPins_16 : decode cX5_joinedPins 16 = .ok (.invokevirtual 117, 3) := by decide +kernel
theorem dX5_joinedPins_19 : decode cX5_joinedPins 19 = .ok (.istore 4, 2) := by decide +kernel
theorem dX5_joinedPins_21 : decode cX5_joinedPins 21 = .ok (.iload_n 1, 1) := by decide +kernel
theorem dX5_joinedPins_22 : decode cX5_joinedPins 22 = .ok (.iload_n 3, 1) := by decide +kernel
theorem dX5_joinedPins_23 : decode cX5_joinedPins 23 = .ok (.if_icmp .ne 14, 3) := by decide +kernel
theorem dX5_joinedPins_26 : decode cX5_joinedPins 26 = .ok (.iload 4, 2) := by decide +kernel
theorem dX5_joinedPins_28 : decode cX5_joinedPins 28 = .ok (.iconst 1, 1) := by decide +kernel
theorem dX5_joinedPins_29 : decode cX5_joinedPins 29 = .ok (.iload_n 2, 1) := by decide +kernel
theorem dX5_joinedPins_30 : decode cX5_joinedPins 30 = .ok (.ishl, 1) := by decide +kernel
theorem dX5_joinedPins_31 : decode cX5_joinedPins 31 = .ok (.iconst (-1), 1) := by decide +kernel
theorem dX5_joinedPins_32 : decode cX5_joinedPins 32 = .ok (.ixor, 1) := by decide +kernel
theorem dX5_joinedPins_33 : decode cX5_joinedPins 33 = .ok (.iand, 1) := by decide +kernel
theorem dX5_joinedPins_34 : decode cX5_joinedPins 34 = .ok (.goto 5, 3) := by decide +kernel
theorem dX5_joinedPins_37 : decode cX5_joinedPins 37 = .ok (.iload 4, 2) := by decide +kernel
theorem dX5_joinedPins_39 : decode cX5_joinedPins 39 = .ok (.ireturn, 1) := by decide +kernel
set_option maxRecDepth 20000 in
theorem ggX5_statusOf_X5_farPinsWith : GoodIn wsX5_statusOf wsX5_farPinsWith := goodIn_r _ [5, 6, 7, 8, 4, 9, 10, 22, 23, 24, 25, 26, 27, 28, 29] (by decide +kernel) (by decide +kernel)
set_option maxRecDepth 20000 in
theorem gX5_statusOf_X5_farPinsWith : GoodIn wsX5_statusOf (wsV RX5 117 RX5 yX5_farPinsWith wsX5_farPinsWith) := goodIn_app (goodIn_of _ (by decide +kernel)) ggX5_statusOf_X5_farPinsWith
set_option maxRecDepth 20000 in
theorem ggX5_statusOf_X5_nearPinsWith : GoodIn wsX5_statusOf wsX5_nearPinsWith := goodIn_r _ [14, 6, 7, 8, 4, 9, 10, 22, 23, 24, 25, 26, 27, 28, 29] (by decide +kernel) (by decide +kernel)
set_option maxRecDepth 20000 in
theorem gX5_statusOf_X5_nearPinsWith : GoodIn wsX5_statusOf (wsV RX5 114 RX5 yX5_nearPinsWith wsX5_nearPinsWith) := goodIn_app (goodIn_of _ (by decide +kernel)) ggX5_statusOf_X5_nearPinsWith
set_option maxRecDepth 20000 in
theorem ggX5_statusOf_J6_bitCount_0f7a4 : GoodIn wsX5_statusOf wsJ6_bitCount_0f7a4 := goodIn_r _ [18, 19, 20, 21] (by decide +kernel) (by decide +kernel)
set_option maxRecDepth 20000 in
theorem gX5_statusOf_J6_bitCount_0f7a4 : GoodIn wsX5_statusOf (va_wsS RX5 120 yJ6_bitCount_0f7a4 wsJ6_bitCount_0f7a4) := goodIn_app (goodIn_of _ (by decide +kernel)) ggX5_statusOf_J6_bitCount_0f7a4
theorem dX5_statusOf_0 : decode cX5_statusOf 0 = .ok (.aload_n 0, 1) := by decide +kernel
theorem dX5_statusOf_1 : decode cX5_statusOf 1 = .ok (.iconst 0, 1) := by decide +kernel
theorem dX5_statusOf_2 : decode cX5_statusOf 2 = .ok (.iload_n 1, 1) := by decide +kernel
theorem dX5_statusOf_3 : decode cX5_statusOf 3 = .ok (.invokevirtual 117, 3) := by decide +kernel
theorem dX5_statusOf_6 : decode cX5_statusOf 6 = .ok (.istore_n 2, 1) := by decide +kernel
theorem dX5_statusOf_7 : decode cX5_statusOf 7 = .ok (.aload_n 0, 1) := by decide +kernel
theorem dX5_statusOf_8 : decode cX5_statusOf 8 = .ok (.iconst 0, 1) := by decide +kernel
theorem dX5_statusOf_9 : decode cX5_statusOf 9 = .ok (.iload_n 1, 1) := by decide +kernel
theorem dX5_statusOf_10 : decode cX5_statusOf 10 = .ok (.invokevirtual 114, 3) := by decide +kernel
theorem dX5_statusOf_13 : decode cX5_statusOf 13 = .ok (.invokestatic 120, 3) := by decide +kernel
theorem dX5_statusOf_16 : decode cX5_statusOf 16 = .ok (.iconst 1, 1) := by decide +kernel
theorem dX5_statusOf_17 : decode cX5_statusOf 17 = .ok (.if_icmp .gt 11, 3) := by decide +kernel
theorem dX5_statusOf_20 : decode cX5_statusOf 20 = .ok (.iload_n 2, 1) := by decide +kernel
theorem dX5_statusOf_21 : decode cX5_statusOf 21 = .ok (.invokestatic 120, 3) := by decide +kernel
theorem dX5_statusOf_24 : decode cX5_statusOf 24 = .ok (.iconst 1, 1) := by decide +kernel
theorem dX5_statusOf_25 : decode cX5_statusOf 25 = .ok (.if_icmp .le 5, 3) := by decide +kernel
theorem dX5_statusOf_28 : decode cX5_statusOf 28 = .ok (.iconst 3, 1) := by decide +kernel
theorem dX5_statusOf_29 : decode cX5_statusOf 29 = .ok (.ireturn, 1) := by decide +kernel
theorem dX5_statusOf_30 : decode cX5_statusOf 30 = .ok (.iload_n 2, 1) := by decide +kernel
theorem dX5_statusOf_31 : decode cX5_statusOf 31 = .ok (.ifCond .ne 5, 3) := by decide +kernel
theorem dX5_statusOf_34 : decode cX5_statusOf 34 = .ok (.iconst 1, 1) := by decide +kernel
theorem dX5_statusOf_35 : decode cX5_statusOf 35 = .ok (.ireturn, 1) := by decide +kernel
theorem dX5_statusOf_36 : decode cX5_statusOf 36 = .ok (.iload_n 2, 1) := by decide +kernel
theorem dX5_statusOf_37 : decode cX5_statusOf 37 = .ok (.iconst 1, 1) := by decide +kernel
theorem dX5_statusOf_38 : decode cX5_statusOf 38 = .ok (.iload_n 1, 1) := by decide +kernel
theorem dX5_statusOf_39 : decode cX5_statusOf 39 = .ok (.ishl, 1) := by decide +kernel
theorem dX5_statusOf_40 : decode cX5_statusOf 40 = .ok (.if_icmp .ne 7, 3) := by decide +kernel
theorem dX5_statusOf_43 : decode cX5_statusOf 43 = .ok (.iconst 0, 1) := by decide +kernel
theorem dX5_statusOf_44 : decode cX5_statusOf 44 = .ok (.goto 4, 3) := by decide +kernel
theorem dX5_statusOf_47 : decode cX5_statusOf 47 = .ok (.iconst 2, 1) := by decide +kernel
theorem dX5_statusOf_48 : decode cX5_statusOf 48 = .ok (.ireturn, 1) := by decide +kernel
set_option maxRecDepth 20000 in
theorem ggX5_isFirstOfNet_X5_membersWith : GoodIn wsX5_isFirstOfNet wsX5_membersWith := goodIn_r _ [5, 6, 7, 8, 9, 10, 11, 12, 13, 14] (by decide +kernel) (by decide +kernel)
set_option maxRecDepth 20000 in
theorem gX5_isFirstOfNet_X5_membersWith : GoodIn wsX5_isFirstOfNet (wsV RX5 111 RX5 yX5_membersWith wsX5_membersWith) := goodIn_app (goodIn_of _ (by decide +kernel)) ggX5_isFirstOfNet_X5_membersWith
theorem dX5_isFirstOfNet_0 : decode cX5_isFirstOfNet 0 = .ok (.aload_n 0, 1) := by decide +kernel
theorem dX5_isFirstOfNet_1 : decode cX5_isFirstOfNet 1 = .ok (.iload_n 1, 1) := by decide +kernel
theorem dX5_isFirstOfNet_2 : decode cX5_isFirstOfNet 2 = .ok (.invokevirtual 111, 3) := by decide +kernel
theorem dX5_isFirstOfNet_5 : decode cX5_isFirstOfNet 5 = .ok (.iconst 1, 1) := by decide +kernel
theorem dX5_isFirstOfNet_6 : decode cX5_isFirstOfNet 6 = .ok (.iload_n 1, 1) := by decide +kernel
theorem dX5_isFirstOfNet_7 : decode cX5_isFirstOfNet 7 = .ok (.ishl, 1) := by decide +kernel
theorem dX5_isFirstOfNet_8 : decode cX5_isFirstOfNet 8 = .ok (.iconst 1, 1) := by decide +kernel
theorem dX5_isFirstOfNet_9 : decode cX5_isFirstOfNet 9 = .ok (.isub, 1) := by decide +kernel
theorem dX5_isFirstOfNet_10 : decode cX5_isFirstOfNet 10 = .ok (.iand, 1) := by decide +kernel
theorem dX5_isFirstOfNet_11 : decode cX5_isFirstOfNet 11 = .ok (.ifCond .ne 7, 3) := by decide +kernel
theorem dX5_isFirstOfNet_14 : decode cX5_isFirstOfNet 14 = .ok (.iconst 1, 1) := by decide +kernel
theorem dX5_isFirstOfNet_15 : decode cX5_isFirstOfNet 15 = .ok (.goto 4, 3) := by decide +kernel
theorem dX5_isFirstOfNet_18 : decode cX5_isFirstOfNet 18 = .ok (.iconst 0, 1) := by decide +kernel
theorem dX5_isFirstOfNet_19 : decode cX5_isFirstOfNet 19 = .ok (.ireturn, 1) := by decide +kernel
set_option maxRecDepth 20000 in
theorem ggX5_size_X5_isFirstOfNet : GoodIn wsX5_size wsX5_isFirstOfNet := goodIn_r _ [5, 6, 7, 8, 4, 9, 10, 11, 12, 13, 14, 15, 16, 17, 18] (by decide +kernel) (by decide +kernel)
set_option maxRecDepth 20000 in
theorem gX5_size_X5_isFirstOfNet : GoodIn wsX5_size (wsV RX5 125 RX5 yX5_isFirstOfNet wsX5_isFirstOfNet) := goodIn_app (goodIn_of _ (by decide +kernel)) ggX5_size_X5_isFirstOfNet
theorem dX5_size_0 : decode cX5_size 0 = .ok (.iconst 0, 1) := by decide +kernel
theorem dX5_size_1 : decode cX5_size 1 = .ok (.istore_n 1, 1) := by decide +kernel
theorem dX5_size_2 : decode cX5_size 2 = .ok (.iconst 0, 1) := by decide +kernel
theorem dX5_size_3 : decode cX5_size 3 = .ok (.istore_n 2, 1) := by decide +kernel
theorem dX5_size_4 : decode cX5_size 4 = .ok (.iload_n 2, 1) := by decide +kernel
theorem dX5_size_5 : decode cX5_size 5 = .ok (.bipush 16, 2) := by decide +kernel
theorem dX5_size_7 : decode cX5_size 7 = .ok (.if_icmp .ge 20, 3) := by decide +kernel
theorem dX5_size_10 : decode cX5_size 10 = .ok (.aload_n 0, 1) := by decide +kernel
theorem dX5_size_11 : decode cX5_size 11 = .ok (.iload_n 2, 1) := by decide +kernel
theorem dX5_size_12 : decode cX5_size 12 = .ok (.invokevirtual 125, 3) := by decide +kernel
theorem dX5_size_15 : decode cX5_size 15 = .ok (.ifCond .eq 6, 3) := by decide +kernel
theorem dX5_size_18 : decode cX5_size 18 = .ok (.iinc 1 1, 3) := by decide +kernel
theorem dX5_size_21 : decode cX5_size 21 = .ok (.iinc 2 1, 3) := by decide +kernel
theorem dX5_size_24 : decode cX5_size 24 = .ok (.goto (-20), 3) := by decide +kernel
theorem dX5_size_27 : decode cX5_size 27 = .ok (.iload_n 1, 1) := by decide +kernel
theorem dX5_size_28 : decode cX5_size 28 = .ok (.ireturn, 1) := by decide +kernel
set_option maxRecDepth 20000 in
theorem ggX5_shortsNeeded_X5_isFirstOfNet : GoodIn wsX5_shortsNeeded wsX5_isFirstOfNet := goodIn_r _ [10, 11, 12, 13, 9, 14, 1, 22, 23, 24, 25, 26, 27, 28, 29] (by decide +kernel) (by decide +kernel)
set_option maxRecDepth 20000 in
theorem gX5_shortsNeeded_X5_isFirstOfNet : GoodIn wsX5_shortsNeeded (wsV RX5 125 RX5 yX5_isFirstOfNet wsX5_isFirstOfNet) := goodIn_app (goodIn_of _ (by decide +kernel)) ggX5_shortsNeeded_X5_isFirstOfNet
set_option maxRecDepth 20000 in
theorem ggX5_shortsNeeded_J6_bitCount_0f7a4 : GoodIn wsX5_shortsNeeded wsJ6_bitCount_0f7a4 := goodIn_r _ [18, 19, 20, 21] (by decide +kernel) (by decide +kernel)
set_option maxRecDepth 20000 in
theorem gX5_shortsNeeded_J6_bitCount_0f7a4 : GoodIn wsX5_shortsNeeded (va_wsS RX5 120 yJ6_bitCount_0f7a4 wsJ6_bitCount_0f7a4) := goodIn_app (goodIn_of _ (by decide +kernel)) ggX5_shortsNeeded_J6_bitCount_0f7a4
theorem dX5_shortsNeeded_0 : decode cX5_shortsNeeded 0 = .ok (.iconst 0, 1) := by decide +kernel
theorem dX5_shortsNeeded_1 : decode cX5_shortsNeeded 1 = .ok (.istore_n 1, 1) := by decide +kernel
theorem dX5_shortsNeeded_2 : decode cX5_shortsNeeded 2 = .ok (.iconst 0, 1) := by decide +kernel
theorem dX5_shortsNeeded_3 : decode cX5_shortsNeeded 3 = .ok (.istore_n 2, 1) := by decide +kernel
theorem dX5_shortsNeeded_4 : decode cX5_shortsNeeded 4 = .ok (.iload_n 2, 1) := by decide +kernel
theorem dX5_shortsNeeded_5 : decode cX5_shortsNeeded 5 = .ok (.bipush 16, 2) := by decide +kernel
theorem dX5_shortsNeeded_7 : decode cX5_shortsNeeded 7 = .ok (.if_icmp .ge 56, 3) := by decide +kernel
theorem dX5_shortsNeeded_10 : decode cX5_shortsNeeded 10 = .ok (.aload_n 0, 1) := by decide +kernel
theorem dX5_shortsNeeded_11 : decode cX5_shortsNeeded 11 = .ok (.iload_n 2, 1) := by decide +kernel
theorem dX5_shortsNeeded_12 : decode cX5_shortsNeeded 12 = .ok (.invokevirtual 125, 3) := by decide +kernel
theorem dX5_shortsNeeded_15 : decode cX5_shortsNeeded 15 = .ok (.ifCond .eq 42, 3) := by decide +kernel
theorem dX5_shortsNeeded_18 : decode cX5_shortsNeeded 18 = .ok (.aload_n 0, 1) := by decide +kernel
theorem dX5_shortsNeeded_19 : decode cX5_shortsNeeded 19 = .ok (.getfield 30, 3) := by decide +kernel
theorem dX5_shortsNeeded_22 : decode cX5_shortsNeeded 22 = .ok (.iload_n 2, 1) := by decide +kernel
theorem dX5_shortsNeeded_23 : decode cX5_shortsNeeded 23 = .ok (.iaload, 1) := by decide +kernel
theorem dX5_shortsNeeded_24 : decode cX5_shortsNeeded 24 = .ok (.sipush 255, 3) := by decide +kernel
theorem dX5_shortsNeeded_27 : decode cX5_shortsNeeded 27 = .ok (.iand, 1) := by decide +kernel
theorem dX5_shortsNeeded_28 : decode cX5_shortsNeeded 28 = .ok (.invokestatic 120, 3) := by decide +kernel
theorem dX5_shortsNeeded_31 : decode cX5_shortsNeeded 31 = .ok (.istore_n 3, 1) := by decide +kernel
theorem dX5_shortsNeeded_32 : decode cX5_shortsNeeded 32 = .ok (.aload_n 0, 1) := by decide +kernel
theorem dX5_shortsNeeded_33 : decode cX5_shortsNeeded 33 = .ok (.getfield 30, 3) := by decide +kernel
theorem dX5_shortsNeeded_36 : decode cX5_shortsNeeded 36 = .ok (.iload_n 2, 1) := by decide +kernel
theorem dX5_shortsNeeded_37 : decode cX5_shortsNeeded 37 = .ok (.iaload, 1) := by decide +kernel
theorem dX5_shortsNeeded_38 : decode cX5_shortsNeeded 38 = .ok (.bipush 8, 2) := by decide +kernel
theorem dX5_shortsNeeded_40 : decode cX5_shortsNeeded 40 = .ok (.ishr, 1) := by decide +kernel
theorem dX5_shortsNeeded_41 : decode cX5_shortsNeeded 41 = .ok (.invokestatic 120, 3) := by decide +kernel
theorem dX5_shortsNeeded_44 : decode cX5_shortsNeeded 44 = .ok (.istore 4, 2) := by decide +kernel
theorem dX5_shortsNeeded_46 : decode cX5_shortsNeeded 46 = .ok (.iload_n 1, 1) := by decide +kernel
theorem dX5_shortsNeeded_47 : decode cX5_shortsNeeded 47 = .ok (.iload_n 3, 1) := by decide +kernel
theorem dX5_shortsNeeded_48 : decode cX5_shortsNeeded 48 = .ok (.iload 4, 2) := by decide +kernel
theorem dX5_shortsNeeded_50 : decode cX5_shortsNeeded 50 = .ok (.invokestatic 129, 3) := by decide +kernel
theorem dX5_shortsNeeded_53 : decode cX5_shortsNeeded 53 = .ok (.iconst 1, 1) := by decide +kernel
theorem dX5_shortsNeeded_54 : decode cX5_shortsNeeded 54 = .ok (.isub, 1) := by decide +kernel
theorem dX5_shortsNeeded_55 : decode cX5_shortsNeeded 55 = .ok (.iadd, 1) := by decide +kernel
theorem dX5_shortsNeeded_56 : decode cX5_shortsNeeded 56 = .ok (.istore_n 1, 1) := by decide +kernel
theorem dX5_shortsNeeded_57 : decode cX5_shortsNeeded 57 = .ok (.iinc 2 1, 3) := by decide +kernel
theorem dX5_shortsNeeded_60 : decode cX5_shortsNeeded 60 = .ok (.goto (-56), 3) := by decide +kernel
theorem dX5_shortsNeeded_63 : decode cX5_shortsNeeded 63 = .ok (.iload_n 1, 1) := by decide +kernel
theorem dX5_shortsNeeded_64 : decode cX5_shortsNeeded 64 = .ok (.ireturn, 1) := by decide +kernel
theorem dX6_init_0 : decode cX6_init 0 = .ok (.aload_n 0, 1) := by decide +kernel
theorem dX6_init_1 : decode cX6_init 1 = .ok (.invokespecial 3, 3) := by decide +kernel
theorem dX6_init_4 : decode cX6_init 4 = .ok (.aload_n 0, 1) := by decide +kernel
theorem dX6_init_5 : decode cX6_init 5 = .ok (.bipush 50, 2) := by decide +kernel
theorem dX6_init_7 : decode cX6_init 7 = .ok (.newarray .int, 2) := by decide +kernel
theorem dX6_init_9 : decode cX6_init 9 = .ok (.putfield 9, 3) := by decide +kernel
theorem dX6_init_12 : decode cX6_init 12 = .ok (.return_, 1) := by decide +kernel
theorem dX6_add_0 : decode cX6_add 0 = .ok (.aload_n 0, 1) := by decide +kernel
theorem dX6_add_1 : decode cX6_add 1 = .ok (.getfield 15, 3) := by decide +kernel
theorem dX6_add_4 : decode cX6_add 4 = .ok (.ifCond .lt 35, 3) := by decide +kernel
theorem dX6_add_7 : decode cX6_add 7 = .ok (.aload_n 0, 1) := by decide +kernel
theorem dX6_add_8 : decode cX6_add 8 = .ok (.getfield 15, 3) := by decide +kernel
theorem dX6_add_11 : decode cX6_add 11 = .ok (.aload_n 0, 1) := by decide +kernel
theorem dX6_add_12 : decode cX6_add 12 = .ok (.getfield 9, 3) := by decide +kernel
theorem dX6_add_15 : decode cX6_add 15 = .ok (.arraylength, 1) := by decide +kernel
theorem dX6_add_16 : decode cX6_add 16 = .ok (.if_icmp .ge 23, 3) := by decide +kernel
theorem dX6_add_19 : decode cX6_add 19 = .ok (.aload_n 0, 1) := by decide +kernel
theorem dX6_add_20 : decode cX6_add 20 = .ok (.getfield 9, 3) := by decide +kernel
theorem dX6_add_23 : decode cX6_add 23 = .ok (.aload_n 0, 1) := by decide +kernel
theorem dX6_add_24 : decode cX6_add 24 = .ok (.getfield 15, 3) := by decide +kernel
theorem dX6_add_27 : decode cX6_add 27 = .ok (.iload_n 1, 1) := by decide +kernel
theorem dX6_add_28 : decode cX6_add 28 = .ok (.iastore, 1) := by decide +kernel
theorem dX6_add_29 : decode cX6_add 29 = .ok (.aload_n 0, 1) := by decide +kernel
theorem dX6_add_30 : decode cX6_add 30 = .ok (.dup, 1) := by decide +kernel
theorem dX6_add_31 : decode cX6_add 31 = .ok (.getfield 15, 3) := by decide +kernel
theorem dX6_add_34 : decode cX6_add 34 = .ok (.iconst 1, 1) := by decide +kernel
theorem dX6_add_35 : decode cX6_add 35 = .ok (.iadd, 1) := by decide +kernel
theorem dX6_add_36 : decode cX6_add 36 = .ok (.putfield 15, 3) := by decide +kernel
theorem dX6_add_39 : decode cX6_add 39 = .ok (.return_, 1) := by decide +kernel
theorem dX6_codeAt_0 : decode cX6_codeAt 0 = .ok (.iload_n 1, 1) := by decide +kernel
theorem dX6_codeAt_1 : decode cX6_codeAt 1 = .ok (.ifCond .lt 21, 3) := by decide +kernel
theorem dX6_codeAt_4 : decode cX6_codeAt 4 = .ok (.iload_n 1, 1) := by decide +kernel
theorem dX6_codeAt_5 : decode cX6_codeAt 5 = .ok (.aload_n 0, 1) := by decide +kernel
theorem dX6_codeAt_6 : decode cX6_codeAt 6 = .ok (.getfield 9, 3) := by decide +kernel
theorem dX6_codeAt_9 : decode cX6_codeAt 9 = .ok (.arraylength, 1) := by decide +kernel
theorem dX6_codeAt_10 : decode cX6_codeAt 10 = .ok (.if_icmp .ge 12, 3) := by decide +kernel
theorem dX6_codeAt_13 : decode cX6_codeAt 13 = .ok (.aload_n 0, 1) := by decide +kernel
theorem dX6_codeAt_14 : decode cX6_codeAt 14 = .ok (.getfield 9, 3) := by decide +kernel
theorem dX6_codeAt_17 : decode cX6_codeAt 17 = .ok (.iload_n 1, 1) := by decide +kernel
theorem dX6_codeAt_18 : decode cX6_codeAt 18 = .ok (.iaload, 1) := by decide +kernel
theorem dX6_codeAt_19 : decode cX6_codeAt 19 = .ok (.goto 4, 3) := by decide +kernel
theorem dX6_codeAt_22 : decode cX6_codeAt 22 = .ok (.iconst 0, 1) := by decide +kernel
theorem dX6_codeAt_23 : decode cX6_codeAt 23 = .ok (.ireturn, 1) := by decide +kernel
theorem dX6_rewind_0 : decode cX6_rewind 0 = .ok (.aload_n 0, 1) := by decide +kernel
theorem dX6_rewind_1 : decode cX6_rewind 1 = .ok (.iconst 0, 1) := by decide +kernel
theorem dX6_rewind_2 : decode cX6_rewind 2 = .ok (.putfield 19, 3) := by decide +kernel
theorem dX6_rewind_5 : decode cX6_rewind 5 = .ok (.aload_n 0, 1) := by decide +kernel
theorem dX6_rewind_6 : decode cX6_rewind 6 = .ok (.iconst 0, 1) := by decide +kernel
theorem dX6_rewind_7 : decode cX6_rewind 7 = .ok (.putfield 22, 3) := by decide +kernel
theorem dX6_rewind_10 : decode cX6_rewind 10 = .ok (.return_, 1) := by decide +kernel
set_option maxRecDepth 20000 in
theorem ggX6_errorIndex_X6_rewind : GoodIn wsX6_errorIndex wsX6_rewind := goodIn_r _ [6, 7, 8, 63, 64, 65, 66, 67, 68, 69, 70, 71, 72] (by decide +kernel) (by decide +kernel)
set_option maxRecDepth 20000 in
theorem gX6_errorIndex_X6_rewind : GoodIn wsX6_errorIndex (wsV RX6 25 RX6 yX6_rewind wsX6_rewind) := goodIn_app (goodIn_of _ (by decide +kernel)) ggX6_errorIndex_X6_rewind
set_option maxRecDepth 20000 in
theorem ggX6_errorIndex_X6_codeAt : GoodIn wsX6_errorIndex wsX6_codeAt := goodIn_r _ [12, 13, 63, 64, 65, 66, 67, 68, 69, 70, 71, 72] (by decide +kernel) (by decide +kernel)
set_option maxRecDepth 20000 in
theorem gX6_errorIndex_X6_codeAt : GoodIn wsX6_errorIndex (wsV RX6 28 RX6 yX6_codeAt wsX6_codeAt) := goodIn_app (goodIn_of _ (by decide +kernel)) ggX6_errorIndex_X6_codeAt
set_option maxRecDepth 20000 in
theorem ggX6_errorIndex_X6_read : GoodIn wsX6_errorIndex wsX6_read := goodIn_r _ [17, 8, 18, 19, 20, 5, 21, 22, 23, 24, 25, 26, 27, 28, 29, 30, 31, 32, 33, 34, 35, 36, 37, 38, 39, 40, 41, 42, 43, 44, 45, 46, 47, 48, 49, 50, 51, 52, 53, 54, 55, 56, 57, 58, 59, 60, 61, 62, 63, 64, 65, 66, 67, 68, 69, 70, 71, 72] (by decide +kernel) (by decide +kernel)
set_option maxRecDepth 20000 in
theorem gX6_errorIndex_X6_read : GoodIn wsX6_errorIndex (wsV RX6 32 RX6 yX6_read wsX6_read) := goodIn_app (goodIn_of _ (by decide +kernel)) ggX6_errorIndex_X6_read
theorem dX6_errorIndex_0 : decode cX6_errorIndex 0 = .ok (.aload_n 0, 1) := by decide +kernel
theorem dX6_errorIndex_1 : decode cX6_errorIndex 1 = .ok (.invokevirtual 25, 3) := by decide +kernel
theorem dX6_errorIndex_4 : decode cX6_errorIndex 4 = .ok (.iconst 0, 1) := by decide +kernel
theorem dX6_errorIndex_5 : decode cX6_errorIndex 5 = .ok (.istore_n 1, 1) := by decide +kernel
theorem dX6_errorIndex_6 : decode cX6_errorIndex 6 = .ok (.iload_n 1, 1) := by decide +kernel
theorem dX6_errorIndex_7 : decode cX6_errorIndex 7 = .ok (.aload_n 0, 1) := by decide +kernel
theorem dX6_errorIndex_8 : decode cX6_errorIndex 8 = .ok (.getfield 15, 3) := by decide +kernel
theorem dX6_errorIndex_11 : decode cX6_errorIndex 11 = .ok (.if_icmp .ge 23, 3) := by decide +kernel
theorem dX6_errorIndex_14 : decode cX6_errorIndex 14 = .ok (.aload_n 0, 1) := by decide +kernel
theorem dX6_errorIndex_15 : decode cX6_errorIndex 15 = .ok (.aload_n 0, 1) := by decide +kernel
theorem dX6_errorIndex_16 : decode cX6_errorIndex 16 = .ok (.iload_n 1, 1) := by decide +kernel
theorem dX6_errorIndex_17 : decode cX6_errorIndex 17 = .ok (.invokevirtual 28, 3) := by decide +kernel
theorem dX6_errorIndex_20 : decode cX6_errorIndex 20 = .ok (.invokevirtual 32, 3) := by decide +kernel
theorem dX6_errorIndex_23 : decode cX6_errorIndex 23 = .ok (.ifCond .ne 5, 3) := by decide +kernel
theorem dX6_errorIndex_26 : decode cX6_errorIndex 26 = .ok (.iload_n 1, 1) := by decide +kernel
theorem dX6_errorIndex_27 : decode cX6_errorIndex 27 = .ok (.ireturn, 1) := by decide +kernel
theorem dX6_errorIndex_28 : decode cX6_errorIndex 28 = .ok (.iinc 1 1, 3) := by decide +kernel
theorem dX6_errorIndex_31 : decode cX6_errorIndex 31 = .ok (.goto (-25), 3) := by decide +kernel
theorem dX6_errorIndex_34 : decode cX6_errorIndex 34 = .ok (.aload_n 0, 1) := by decide +kernel
theorem dX6_errorIndex_35 : decode cX6_errorIndex 35 = .ok (.getfield 15, 3) := by decide +kernel
theorem dX6_errorIndex_38 : decode cX6_errorIndex 38 = .ok (.ireturn, 1) := by decide +kernel
set_option maxRecDepth 20000 in
theorem ggX6_isComplete_X6_errorIndex : GoodIn wsX6_isComplete wsX6_errorIndex := goodIn_r _ [6, 1, 7, 8, 9, 5, 10, 11, 12, 13, 14, 15, 16, 17, 18, 19, 20, 21, 22, 23, 24, 25, 26, 27, 28, 29, 30, 31, 32, 33, 34, 35, 36, 37, 38, 39, 40, 41, 42, 43, 44, 45, 46, 47, 48, 49, 50, 51, 52, 53, 54, 55, 56, 57, 58, 59, 60, 61, 62, 63, 64, 65, 66, 67, 68, 69, 70, 71, 72, 73, 74, 75, 76] (by decide +kernel) (by decide +kernel)
set_option maxRecDepth 20000 in
theorem gX6_isComplete_X6_errorIndex : GoodIn wsX6_isComplete (wsV RX6 36 RX6 yX6_errorIndex wsX6_errorIndex) := goodIn_app (goodIn_of _ (by decide +kernel)) ggX6_isComplete_X6_errorIndex
set_option maxRecDepth 20000 in
theorem ggX6_isComplete_X6_isItemWhole : GoodIn wsX6_isComplete wsX6_isItemWhole := goodIn_r _ [25, 12, 26, 27, 67, 68, 69, 70, 71, 72, 73, 74, 75, 76] (by decide +kernel) (by decide +kernel)
set_option maxRecDepth 20000 in
theorem gX6_isComplete_X6_isItemWhole : GoodIn wsX6_isComplete (wsV RX6 40 RX6 yX6_isItemWhole wsX6_isItemWhole) := goodIn_app (goodIn_of _ (by decide +kernel)) ggX6_isComplete_X6_isItemWhole
theorem dX6_isComplete_0 : decode cX6_isComplete 0 = .ok (.aload_n 0, 1) := by decide +kernel
theorem dX6_isComplete_1 : decode cX6_isComplete 1 = .ok (.invokevirtual 36, 3) := by decide +kernel
theorem dX6_isComplete_4 : decode cX6_isComplete 4 = .ok (.aload_n 0, 1) := by decide +kernel
theorem dX6_isComplete_5 : decode cX6_isComplete 5 = .ok (.getfield 15, 3) := by decide +kernel
theorem dX6_isComplete_8 : decode cX6_isComplete 8 = .ok (.if_icmp .ne 14, 3) := by decide +kernel
theorem dX6_isComplete_11 : decode cX6_isComplete 11 = .ok (.aload_n 0, 1) := by decide +kernel
theorem dX6_isComplete_12 : decode cX6_isComplete 12 = .ok (.invokevirtual 40, 3) := by decide +kernel
theorem dX6_isComplete_15 : decode cX6_isComplete 15 = .ok (.ifCond .eq 7, 3) := by decide +kernel
theorem dX6_isComplete_18 : decode cX6_isComplete 18 = .ok (.iconst 1, 1) := by decide +kernel
theorem dX6_isComplete_19 : decode cX6_isComplete 19 = .ok (.goto 4, 3) := by decide +kernel
theorem dX6_isComplete_22 : decode cX6_isComplete 22 = .ok (.iconst 0, 1) := by decide +kernel
theorem dX6_isComplete_23 : decode cX6_isComplete 23 = .ok (.ireturn, 1) := by decide +kernel
set_option maxRecDepth 20000 in
theorem ggX6_readItem_X6_codeAt : GoodIn wsX6_readItem wsX6_codeAt := goodIn_r _ [7, 8, 59, 60, 61, 62, 63, 64, 65, 66, 67, 68] (by decide +kernel) (by decide +kernel)
set_option maxRecDepth 20000 in
theorem gX6_readItem_X6_codeAt : GoodIn wsX6_readItem (wsV RX6 28 RX6 yX6_codeAt wsX6_codeAt) := goodIn_app (goodIn_of _ (by decide +kernel)) ggX6_readItem_X6_codeAt
set_option maxRecDepth 20000 in
theorem ggX6_readItem_X6_read : GoodIn wsX6_readItem wsX6_read := goodIn_r _ [12, 13, 14, 15, 16, 6, 17, 18, 19, 20, 21, 22, 23, 24, 25, 26, 27, 28, 29, 30, 31, 32, 33, 34, 35, 36, 37, 38, 39, 40, 41, 42, 43, 44, 45, 46, 47, 48, 49, 50, 51, 52, 53, 54, 55, 56, 57, 58, 59, 60, 61, 62, 63, 64, 65, 66, 67, 68] (by decide +kernel) (by decide +kernel)
set_option maxRecDepth 20000 in
theorem gX6_readItem_X6_read : GoodIn wsX6_readItem (wsV RX6 32 RX6 yX6_read wsX6_read) := goodIn_app (goodIn_of _ (by decide +kernel)) ggX6_readItem_X6_read
theorem dX6_readItem_0 : decode cX6_readItem 0 = .ok (.aload_n 0, 1) := by decide +kernel
theorem dX6_readItem_1 : decode cX6_readItem 1 = .ok (.getfield 19, 3) := by decide +kernel
theorem dX6_readItem_4 : decode cX6_readItem 4 = .ok (.aload_n 0, 1) := by decide +kernel
theorem dX6_readItem_5 : decode cX6_readItem 5 = .ok (.getfield 15, 3) := by decide +kernel
theorem dX6_readItem_8 : decode cX6_readItem 8 = .ok (.if_icmp .lt 5, 3) := by decide +kernel
theorem dX6_readItem_11 : decode cX6_readItem 11 = .ok (.iconst 0, 1) := by decide +kernel
theorem dX6_readItem_12 : decode cX6_readItem 12 = .ok (.ireturn, 1) := by decide +kernel
theorem dX6_readItem_13 : decode cX6_readItem 13 = .ok (.iconst 0, 1) := by decide +kernel
theorem dX6_readItem_14 : decode cX6_readItem 14 = .ok (.istore_n 1, 1) := by decide +kernel
theorem dX6_readItem_15 : decode cX6_readItem 15 = .ok (.aload_n 0, 1) := by decide +kernel
theorem dX6_readItem_16 : decode cX6_readItem 16 = .ok (.getfield 19, 3) := by decide +kernel
theorem dX6_readItem_19 : decode cX6_readItem 19 = .ok (.aload_n 0, 1) := by decide +kernel
theorem dX6_readItem_20 : decode cX6_readItem 20 = .ok (.getfield 15, 3) := by decide +kernel
theorem dX6_readItem_23 : decode cX6_readItem 23 = .ok (.if_icmp .ge 52, 3) := by decide +kernel
theorem dX6_readItem_26 : decode cX6_readItem 26 = .ok (.iload_n 1, 1) := by decide +kernel
theorem dX6_readItem_27 : decode cX6_readItem 27 = .ok (.ifCond .ne 48, 3) := by decide +kernel
theorem dX6_readItem_30 : decode cX6_readItem 30 = .ok (.aload_n 0, 1) := by decide +kernel
theorem dX6_readItem_31 : decode cX6_readItem 31 = .ok (.aload_n 0, 1) := by decide +kernel
theorem dX6_readItem_32 : decode cX6_readItem 32 = .ok (.aload_n 0, 1) := by decide +kernel
theorem dX6_readItem_33 : decode cX6_readItem 33 = .ok (.getfield 19, 3) := by decide +kernel
theorem dX6_readItem_36 : decode cX6_readItem 36 = .ok (.invokevirtual 28, 3) := by decide +kernel
theorem dX6_readItem_39 : decode cX6_readItem 39 = .ok (.invokevirtual 32, 3) := by decide +kernel
theorem dX6_readItem_42 : decode cX6_readItem 42 = .ok (.pop, 1) := by decide +kernel
theorem dX6_readItem_43 : decode cX6_readItem 43 = .ok (.aload_n 0, 1) := by decide +kernel
theorem dX6_readItem_44 : decode cX6_readItem 44 = .ok (.aload_n 0, 1) := by decide +kernel
theorem dX6_readItem_45 : decode cX6_readItem 45 = .ok (.getfield 19, 3) := by decide +kernel
theorem dX6_readItem_48 : decode cX6_readItem 48 = .ok (.invokevirtual 28, 3) := by decide +kernel
theorem dX6_readItem_51 : decode cX6_readItem 51 = .ok (.bipush 59, 2) := by decide +kernel
theorem dX6_readItem_53 : decode cX6_readItem 53 = .ok (.if_icmp .ne 7, 3) := by decide +kernel
theorem dX6_readItem_56 : decode cX6_readItem 56 = .ok (.iconst 1, 1) := by decide +kernel
theorem dX6_readItem_57 : decode cX6_readItem 57 = .ok (.goto 4, 3) := by decide +kernel
theorem dX6_readItem_60 : decode cX6_readItem 60 = .ok (.iconst 0, 1) := by decide +kernel
theorem dX6_readItem_61 : decode cX6_readItem 61 = .ok (.istore_n 1, 1) := by decide +kernel
theorem dX6_readItem_62 : decode cX6_readItem 62 = .ok (.aload_n 0, 1) := by decide +kernel
theorem dX6_readItem_63 : decode cX6_readItem 63 = .ok (.dup, 1) := by decide +kernel
theorem dX6_readItem_64 : decode cX6_readItem 64 = .ok (.getfield 19, 3) := by decide +kernel
theorem dX6_readItem_67 : decode cX6_readItem 67 = .ok (.iconst 1, 1) := by decide +kernel
theorem dX6_readItem_68 : decode cX6_readItem 68 = .ok (.iadd, 1) := by decide +kernel
theorem dX6_readItem_69 : decode cX6_readItem 69 = .ok (.putfield 19, 3) := by decide +kernel
theorem dX6_readItem_72 : decode cX6_readItem 72 = .ok (.goto (-57), 3) := by decide +kernel
theorem dX6_readItem_75 : decode cX6_readItem 75 = .ok (.iconst 1, 1) := by decide +kernel
theorem dX6_readItem_76 : decode cX6_readItem 76 = .ok (.ireturn, 1) := by decide +kernel
theorem dX6_itemIsFault_0 : decode cX6_itemIsFault 0 = .ok (.aload_n 0, 1) := by decide +kernel
theorem dX6_itemIsFault_1 : decode cX6_itemIsFault 1 = .ok (.getfield 44, 3) := by decide +kernel
theorem dX6_itemIsFault_4 : decode cX6_itemIsFault 4 = .ok (.bipush 99, 2) := by decide +kernel
theorem dX6_itemIsFault_6 : decode cX6_itemIsFault 6 = .ok (.if_icmp .eq 12, 3) := by decide +kernel
theorem dX6_itemIsFault_9 : decode cX6_itemIsFault 9 = .ok (.aload_n 0, 1) := by decide +kernel
theorem dX6_itemIsFault_10 : decode cX6_itemIsFault 10 = .ok (.getfield 44, 3) := by decide +kernel
theorem dX6_itemIsFault_13 : decode cX6_itemIsFault 13 = .ok (.bipush 115, 2) := by decide +kernel
theorem dX6_itemIsFault_15 : decode cX6_itemIsFault 15 = .ok (.if_icmp .ne 7, 3) := by decide +kernel
theorem dX6_itemIsFault_18 : decode cX6_itemIsFault 18 = .ok (.iconst 1, 1) := by decide +kernel
theorem dX6_itemIsFault_19 : decode cX6_itemIsFault 19 = .ok (.goto 4, 3) := by decide +kernel
theorem dX6_itemIsFault_22 : decode cX6_itemIsFault 22 = .ok (.iconst 0, 1) := by decide +kernel
theorem dX6_itemIsFault_23 : decode cX6_itemIsFault 23 = .ok (.ireturn, 1) := by decide +kernel
theorem dX6_isItemWhole_0 : decode cX6_isItemWhole 0 = .ok (.aload_n 0, 1) := by decide +kernel
theorem dX6_isItemWhole_1 : decode cX6_isItemWhole 1 = .ok (.getfield 22, 3) := by decide +kernel
theorem dX6_isItemWhole_4 : decode cX6_isItemWhole 4 = .ok (.bipush 7, 2) := by decide +kernel
theorem dX6_isItemWhole_6 : decode cX6_isItemWhole 6 = .ok (.if_icmp .eq 34, 3) := by decide +kernel
theorem dX6_isItemWhole_9 : decode cX6_isItemWhole 9 = .ok (.aload_n 0, 1) := by decide +kernel
theorem dX6_isItemWhole_10 : decode cX6_isItemWhole 10 = .ok (.getfield 22, 3) := by decide +kernel
theorem dX6_isItemWhole_13 : decode cX6_isItemWhole 13 = .ok (.iconst 4, 1) := by decide +kernel
theorem dX6_isItemWhole_14 : decode cX6_isItemWhole 14 = .ok (.if_icmp .ne 10, 3) := by decide +kernel
theorem dX6_isItemWhole_17 : decode cX6_isItemWhole 17 = .ok (.aload_n 0, 1) := by decide +kernel
theorem dX6_isItemWhole_18 : decode cX6_isItemWhole 18 = .ok (.getfield 47, 3) := by decide +kernel
theorem dX6_isItemWhole_21 : decode cX6_isItemWhole 21 = .ok (.ifCond .gt 19, 3) := by decide +kernel
theorem dX6_isItemWhole_24 : decode cX6_isItemWhole 24 = .ok (.aload_n 0, 1) := by decide +kernel
theorem dX6_isItemWhole_25 : decode cX6_isItemWhole 25 = .ok (.getfield 22, 3) := by decide +kernel
theorem dX6_isItemWhole_28 : decode cX6_isItemWhole 28 = .ok (.bipush 6, 2) := by decide +kernel
theorem dX6_isItemWhole_30 : decode cX6_isItemWhole 30 = .ok (.if_icmp .ne 14, 3) := by decide +kernel
theorem dX6_isItemWhole_33 : decode cX6_isItemWhole 33 = .ok (.aload_n 0, 1) := by decide +kernel
theorem dX6_isItemWhole_34 : decode cX6_isItemWhole 34 = .ok (.getfield 50, 3) := by decide +kernel
theorem dX6_isItemWhole_37 : decode cX6_isItemWhole 37 = .ok (.ifCond .le 7, 3) := by decide +kernel
theorem dX6_isItemWhole_40 : decode cX6_isItemWhole 40 = .ok (.iconst 1, 1) := by decide +kernel
theorem dX6_isItemWhole_41 : decode cX6_isItemWhole 41 = .ok (.goto 4, 3) := by decide +kernel
theorem dX6_isItemWhole_44 : decode cX6_isItemWhole 44 = .ok (.iconst 0, 1) := by decide +kernel
theorem dX6_isItemWhole_45 : decode cX6_isItemWhole 45 = .ok (.ireturn, 1) := by decide +kernel
set_option maxRecDepth 20000 in
theorem ggX6_read_X6_isItemWhole : GoodIn wsX6_read wsX6_isItemWhole := goodIn_r _ [6, 1, 7, 8, 48, 49, 50, 51, 52, 53, 54, 55, 56, 57] (by decide +kernel) (by decide +kernel)
set_option maxRecDepth 20000 in
theorem gX6_read_X6_isItemWhole : GoodIn wsX6_read (wsV RX6 40 RX6 yX6_isItemWhole wsX6_isItemWhole) := goodIn_app (goodIn_of _ (by decide +kernel)) ggX6_read_X6_isItemWhole
set_option maxRecDepth 20000 in
theorem ggX6_read_X6_readLetter : GoodIn wsX6_read wsX6_readLetter := goodIn_r _ [12, 13, 14, 7, 15, 8, 1, 16, 17, 18, 5, 19, 48, 49, 50, 51, 52, 53, 54, 55, 56, 57] (by decide +kernel) (by decide +kernel)
set_option maxRecDepth 20000 in
theorem gX6_read_X6_readLetter : GoodIn wsX6_read (wsV RX6 53 RX6 yX6_readLetter wsX6_readLetter) := goodIn_app (goodIn_of _ (by decide +kernel)) ggX6_read_X6_readLetter
set_option maxRecDepth 20000 in
theorem ggX6_read_X6_readFirst : GoodIn wsX6_read wsX6_readFirst := goodIn_r _ [23, 24, 13, 1, 48, 49, 50, 51, 52, 53, 54, 55, 56, 57] (by decide +kernel) (by decide +kernel)
set_option maxRecDepth 20000 in
theorem gX6_read_X6_readFirst : GoodIn wsX6_read (wsV RX6 56 RX6 yX6_readFirst wsX6_readFirst) := goodIn_app (goodIn_of _ (by decide +kernel)) ggX6_read_X6_readFirst
set_option maxRecDepth 20000 in
theorem ggX6_read_X6_readSecond : GoodIn wsX6_read wsX6_readSecond := goodIn_r _ [28, 14, 13, 1, 24, 48, 49, 50, 51, 52, 53, 54, 55, 56, 57] (by decide +kernel) (by decide +kernel)
set_option maxRecDepth 20000 in
theorem gX6_read_X6_readSecond : GoodIn wsX6_read (wsV RX6 59 RX6 yX6_readSecond wsX6_readSecond) := goodIn_app (goodIn_of _ (by decide +kernel)) ggX6_read_X6_readSecond
set_option maxRecDepth 20000 in
theorem ggX6_read_X6_readSign : GoodIn wsX6_read wsX6_readSign := goodIn_r _ [32, 1, 48, 49, 50, 51, 52, 53, 54, 55, 56, 57] (by decide +kernel) (by decide +kernel)
set_option maxRecDepth 20000 in
theorem gX6_read_X6_readSign : GoodIn wsX6_read (wsV RX6 62 RX6 yX6_readSign wsX6_readSign) := goodIn_app (goodIn_of _ (by decide +kernel)) ggX6_read_X6_readSign
set_option maxRecDepth 20000 in
theorem ggX6_read_X6_readPlace : GoodIn wsX6_read wsX6_readPlace := goodIn_r _ [36, 7, 1, 15, 8, 37, 38, 5, 39, 48, 49, 50, 51, 52, 53, 54, 55, 56, 57] (by decide +kernel) (by decide +kernel)
set_option maxRecDepth 20000 in
theorem gX6_read_X6_readPlace : GoodIn wsX6_read (wsV RX6 65 RX6 yX6_readPlace wsX6_readPlace) := goodIn_app (goodIn_of _ (by decide +kernel)) ggX6_read_X6_readPlace
set_option maxRecDepth 20000 in
theorem ggX6_read_X6_readPeriod : GoodIn wsX6_read wsX6_readPeriod := goodIn_r _ [43, 15, 1, 37, 38, 5, 39, 48, 49, 50, 51, 52, 53, 54, 55, 56, 57] (by decide +kernel) (by decide +kernel)
set_option maxRecDepth 20000 in
theorem gX6_read_X6_readPeriod : GoodIn wsX6_read (wsV RX6 68 RX6 yX6_readPeriod wsX6_readPeriod) := goodIn_app (goodIn_of _ (by decide +kernel)) ggX6_read_X6_readPeriod
set_option maxRecDepth 20000 in
theorem ggX6_read_X6_readDuration : GoodIn wsX6_read wsX6_readDuration := goodIn_r _ [47, 8, 15, 37, 38, 5, 39, 48, 49, 50, 51, 52, 53, 54, 55, 56, 57] (by decide +kernel) (by decide +kernel)
set_option maxRecDepth 20000 in
theorem gX6_read_X6_readDuration : GoodIn wsX6_read (wsV RX6 71 RX6 yX6_readDuration wsX6_readDuration) := goodIn_app (goodIn_of _ (by decide +kernel)) ggX6_read_X6_readDuration
theorem dX6_read_0 : decode cX6_read 0 = .ok (.iload_n 1, 1) := by decide +kernel
theorem dX6_read_1 : decode cX6_read 1 = .ok (.bipush 59, 2) := by decide +kernel
theorem dX6_read_3 : decode cX6_read 3 = .ok (.if_icmp .ne 15, 3) := by decide +kernel
theorem dX6_read_6 : decode cX6_read 6 = .ok (.aload_n 0, 1) := by decide +kernel
theorem dX6_read_7 : decode cX6_read 7 = .ok (.invokevirtual 40, 3) := by decide +kernel
theorem dX6_read_10 : decode cX6_read 10 = .ok (.istore_n 2, 1) := by decide +kernel
theorem dX6_read_11 : decode cX6_read 11 = .ok (.aload_n 0, 1) := by decide +kernel
theorem dX6_read_12 : decode cX6_read 12 = .ok (.iconst 0, 1) := by decide +kernel
theorem dX6_read_13 : decode cX6_read 13 = .ok (.putfield 22, 3) := by decide +kernel
theorem dX6_read_16 : decode cX6_read 16 = .ok (.iload_n 2, 1) := by decide +kernel
theorem dX6_read_17 : decode cX6_read 17 = .ok (.ireturn, 1) := by decide +kernel
theorem dX6_read_18 : decode cX6_read 18 = .ok (.aload_n 0, 1) := by decide +kernel
theorem dX6_read_19 : decode cX6_read 19 = .ok (.getfield 22, 3) := by decide +kernel
theorem dX6_read_22 : decode cX6_read 22 = .ok (.tableswitch 84 0 6 #[42, 48, 54, 60, 66, 72, 78], 42) := by decide +kernel
theorem dX6_read_64 : decode cX6_read 64 = .ok (.aload_n 0, 1) := by decide +kernel
theorem dX6_read_65 : decode cX6_read 65 = .ok (.iload_n 1, 1) := by decide +kernel
theorem dX6_read_66 : decode cX6_read 66 = .ok (.invokevirtual 53, 3) := by decide +kernel
theorem dX6_read_69 : decode cX6_read 69 = .ok (.ireturn, 1) := by decide +kernel
theorem dX6_read_70 : decode cX6_read 70 = .ok (.aload_n 0, 1) := by decide +kernel
theorem dX6_read_71 : decode cX6_read 71 = .ok (.iload_n 1, 1) := by decide +kernel
theorem dX6_read_72 : decode cX6_read 72 = .ok (.invokevirtual 56, 3) := by decide +kernel
theorem dX6_read_75 : decode cX6_read 75 = .ok (.ireturn, 1) := by decide +kernel
theorem dX6_read_76 : decode cX6_read 76 = .ok (.aload_n 0, 1) := by decide +kernel
theorem dX6_read_77 : decode cX6_read 77 = .ok (.iload_n 1, 1) := by decide +kernel
theorem dX6_read_78 : decode cX6_read 78 = .ok (.invokevirtual 59, 3) := by decide +kernel
theorem dX6_read_81 : decode cX6_read 81 = .ok (.ireturn, 1) := by decide +kernel
theorem dX6_read_82 : decode cX6_read 82 = .ok (.aload_n 0, 1) := by decide +kernel
theorem dX6_read_83 : decode cX6_read 83 = .ok (.iload_n 1, 1) := by decide +kernel
theorem dX6_read_84 : decode cX6_read 84 = .ok (.invokevirtual 62, 3) := by decide +kernel
theorem dX6_read_87 : decode cX6_read 87 = .ok (.ireturn, 1) := by decide +kernel
theorem dX6_read_88 : decode cX6_read 88 = .ok (.aload_n 0, 1) := by decide +kernel
theorem dX6_read_89 : decode cX6_read 89 = .ok (.iload_n 1, 1) := by decide +kernel
theorem dX6_read_90 : decode cX6_read 90 = .ok (.invokevirtual 65, 3) := by decide +kernel
theorem dX6_read_93 : decode cX6_read 93 = .ok (.ireturn, 1) := by decide +kernel
theorem dX6_read_94 : decode cX6_read 94 = .ok (.aload_n 0, 1) := by decide +kernel
theorem dX6_read_95 : decode cX6_read 95 = .ok (.iload_n 1, 1) := by decide +kernel
theorem dX6_read_96 : decode cX6_read 96 = .ok (.invokevirtual 68, 3) := by decide +kernel
theorem dX6_read_99 : decode cX6_read 99 = .ok (.ireturn, 1) := by decide +kernel
theorem dX6_read_100 : decode cX6_read 100 = .ok (.aload_n 0, 1) := by decide +kernel
theorem dX6_read_101 : decode cX6_read 101 = .ok (.iload_n 1, 1) := by decide +kernel
theorem dX6_read_102 : decode cX6_read 102 = .ok (.invokevirtual 71, 3) := by decide +kernel
theorem dX6_read_105 : decode cX6_read 105 = .ok (.ireturn, 1) := by decide +kernel
theorem dX6_read_106 : decode cX6_read 106 = .ok (.iconst 0, 1) := by decide +kernel
theorem dX6_read_107 : decode cX6_read 107 = .ok (.ireturn, 1) := by decide +kernel
set_option maxRecDepth 20000 in
theorem ggX6_readLetter_X6_itemIsFault : GoodIn wsX6_readLetter wsX6_itemIsFault := goodIn_r _ [11, 1, 12, 13, 14, 15, 16, 17, 18, 19, 20, 21] (by decide +kernel) (by decide +kernel)
set_option maxRecDepth 20000 in
theorem gX6_readLetter_X6_itemIsFault : GoodIn wsX6_readLetter (wsV RX6 80 RX6 yX6_itemIsFault wsX6_itemIsFault) := goodIn_app (goodIn_of _ (by decide +kernel)) ggX6_readLetter_X6_itemIsFault
theorem dX6_readLetter_0 : decode cX6_readLetter 0 = .ok (.aload_n 0, 1) := by decide +kernel
theorem dX6_readLetter_1 : decode cX6_readLetter 1 = .ok (.iload_n 1, 1) := by decide +kernel
theorem dX6_readLetter_2 : decode cX6_readLetter 2 = .ok (.putfield 44, 3) := by decide +kernel
theorem dX6_readLetter_5 : decode cX6_readLetter 5 = .ok (.aload_n 0, 1) := by decide +kernel
theorem dX6_readLetter_6 : decode cX6_readLetter 6 = .ok (.iconst (-1), 1) := by decide +kernel
theorem dX6_readLetter_7 : decode cX6_readLetter 7 = .ok (.putfield 74, 3) := by decide +kernel
theorem dX6_readLetter_10 : decode cX6_readLetter 10 = .ok (.aload_n 0, 1) := by decide +kernel
theorem dX6_readLetter_11 : decode cX6_readLetter 11 = .ok (.iconst 0, 1) := by decide +kernel
theorem dX6_readLetter_12 : decode cX6_readLetter 12 = .ok (.putfield 47, 3) := by decide +kernel
theorem dX6_readLetter_15 : decode cX6_readLetter 15 = .ok (.aload_n 0, 1) := by decide +kernel
theorem dX6_readLetter_16 : decode cX6_readLetter 16 = .ok (.iconst 1, 1) := by decide +kernel
theorem dX6_readLetter_17 : decode cX6_readLetter 17 = .ok (.putfield 77, 3) := by decide +kernel
theorem dX6_readLetter_20 : decode cX6_readLetter 20 = .ok (.aload_n 0, 1) := by decide +kernel
theorem dX6_readLetter_21 : decode cX6_readLetter 21 = .ok (.iconst 1, 1) := by decide +kernel
theorem dX6_readLetter_22 : decode cX6_readLetter 22 = .ok (.putfield 50, 3) := by decide +kernel
theorem dX6_readLetter_25 : decode cX6_readLetter 25 = .ok (.aload_n 0, 1) := by decide +kernel
theorem dX6_readLetter_26 : decode cX6_readLetter 26 = .ok (.iconst 1, 1) := by decide +kernel
theorem dX6_readLetter_27 : decode cX6_readLetter 27 = .ok (.putfield 22, 3) := by decide +kernel
theorem dX6_readLetter_30 : decode cX6_readLetter 30 = .ok (.aload_n 0, 1) := by decide +kernel
theorem dX6_readLetter_31 : decode cX6_readLetter 31 = .ok (.invokevirtual 80, 3) := by decide +kernel
theorem dX6_readLetter_34 : decode cX6_readLetter 34 = .ok (.ifCond .ne 21, 3) := by decide +kernel
theorem dX6_readLetter_37 : decode cX6_readLetter 37 = .ok (.aload_n 0, 1) := by decide +kernel
theorem dX6_readLetter_38 : decode cX6_readLetter 38 = .ok (.getfield 44, 3) := by decide +kernel
theorem dX6_readLetter_41 : decode cX6_readLetter 41 = .ok (.bipush 110, 2) := by decide +kernel
theorem dX6_readLetter_43 : decode cX6_readLetter 43 = .ok (.if_icmp .eq 12, 3) := by decide +kernel
theorem dX6_readLetter_46 : decode cX6_readLetter 46 = .ok (.aload_n 0, 1) := by decide +kernel
theorem dX6_readLetter_47 : decode cX6_readLetter 47 = .ok (.getfield 44, 3) := by decide +kernel
theorem dX6_readLetter_50 : decode cX6_readLetter 50 = .ok (.bipush 102, 2) := by decide +kernel
theorem dX6_readLetter_52 : decode cX6_readLetter 52 = .ok (.if_icmp .ne 7, 3) := by decide +kernel
theorem dX6_readLetter_55 : decode cX6_readLetter 55 = .ok (.iconst 1, 1) := by decide +kernel
theorem dX6_readLetter_56 : decode cX6_readLetter 56 = .ok (.goto 4, 3) := by decide +kernel
theorem dX6_readLetter_59 : decode cX6_readLetter 59 = .ok (.iconst 0, 1) := by decide +kernel
theorem dX6_readLetter_60 : decode cX6_readLetter 60 = .ok (.ireturn, 1) := by decide +kernel
theorem dX6_readFirst_0 : decode cX6_readFirst 0 = .ok (.aload_n 0, 1) := by decide +kernel
theorem dX6_readFirst_1 : decode cX6_readFirst 1 = .ok (.iload_n 1, 1) := by decide +kernel
theorem dX6_readFirst_2 : decode cX6_readFirst 2 = .ok (.bipush 48, 2) := by decide +kernel
theorem dX6_readFirst_4 : decode cX6_readFirst 4 = .ok (.isub, 1) := by decide +kernel
theorem dX6_readFirst_5 : decode cX6_readFirst 5 = .ok (.putfield 83, 3) := by decide +kernel
theorem dX6_readFirst_8 : decode cX6_readFirst 8 = .ok (.aload_n 0, 1) := by decide +kernel
theorem dX6_readFirst_9 : decode cX6_readFirst 9 = .ok (.aload_n 0, 1) := by decide +kernel
theorem dX6_readFirst_10 : decode cX6_readFirst 10 = .ok (.getfield 44, 3) := by decide +kernel
theorem dX6_readFirst_13 : decode cX6_readFirst 13 = .ok (.bipush 99, 2) := by decide +kernel
theorem dX6_readFirst_15 : decode cX6_readFirst 15 = .ok (.if_icmp .ne 7, 3) := by decide +kernel
theorem dX6_readFirst_18 : decode cX6_readFirst 18 = .ok (.iconst 3, 1) := by decide +kernel
theorem dX6_readFirst_19 : decode cX6_readFirst 19 = .ok (.goto 4, 3) := by decide +kernel
theorem dX6_readFirst_22 : decode cX6_readFirst 22 = .ok (.iconst 2, 1) := by decide +kernel
theorem dX6_readFirst_23 : decode cX6_readFirst 23 = .ok (.putfield 22, 3) := by decide +kernel
theorem dX6_readFirst_26 : decode cX6_readFirst 26 = .ok (.aload_n 0, 1) := by decide +kernel
theorem dX6_readFirst_27 : decode cX6_readFirst 27 = .ok (.getfield 83, 3) := by decide +kernel
theorem dX6_readFirst_30 : decode cX6_readFirst 30 = .ok (.ifCond .lt 16, 3) := by decide +kernel
theorem dX6_readFirst_33 : decode cX6_readFirst 33 = .ok (.aload_n 0, 1) := by decide +kernel
theorem dX6_readFirst_34 : decode cX6_readFirst 34 = .ok (.getfield 83, 3) := by decide +kernel
theorem dX6_readFirst_37 : decode cX6_readFirst 37 = .ok (.bipush 8, 2) := by decide +kernel
theorem dX6_readFirst_39 : decode cX6_readFirst 39 = .ok (.if_icmp .ge 7, 3) := by decide +kernel
theorem dX6_readFirst_42 : decode cX6_readFirst 42 = .ok (.iconst 1, 1) := by decide +kernel
theorem dX6_readFirst_43 : decode cX6_readFirst 43 = .ok (.goto 4, 3) := by decide +kernel
theorem dX6_readFirst_46 : decode cX6_readFirst 46 = .ok (.iconst 0, 1) := by decide +kernel
theorem dX6_readFirst_47 : decode cX6_readFirst 47 = .ok (.ireturn, 1) := by decide +kernel
theorem dX6_readSecond_0 : decode cX6_readSecond 0 = .ok (.aload_n 0, 1) := by decide +kernel
theorem dX6_readSecond_1 : decode cX6_readSecond 1 = .ok (.iload_n 1, 1) := by decide +kernel
theorem dX6_readSecond_2 : decode cX6_readSecond 2 = .ok (.bipush 48, 2) := by decide +kernel
theorem dX6_readSecond_4 : decode cX6_readSecond 4 = .ok (.isub, 1) := by decide +kernel
theorem dX6_readSecond_5 : decode cX6_readSecond 5 = .ok (.putfield 74, 3) := by decide +kernel
theorem dX6_readSecond_8 : decode cX6_readSecond 8 = .ok (.aload_n 0, 1) := by decide +kernel
theorem dX6_readSecond_9 : decode cX6_readSecond 9 = .ok (.aload_n 0, 1) := by decide +kernel
theorem dX6_readSecond_10 : decode cX6_readSecond 10 = .ok (.getfield 44, 3) := by decide +kernel
theorem dX6_readSecond_13 : decode cX6_readSecond 13 = .ok (.bipush 115, 2) := by decide +kernel
theorem dX6_readSecond_15 : decode cX6_readSecond 15 = .ok (.if_icmp .ne 7, 3) := by decide +kernel
theorem dX6_readSecond_18 : decode cX6_readSecond 18 = .ok (.iconst 3, 1) := by decide +kernel
theorem dX6_readSecond_19 : decode cX6_readSecond 19 = .ok (.goto 5, 3) := by decide +kernel
theorem dX6_readSecond_22 : decode cX6_readSecond 22 = .ok (.bipush 7, 2) := by decide +kernel
theorem dX6_readSecond_24 : decode cX6_readSecond 24 = .ok (.putfield 22, 3) := by decide +kernel
theorem dX6_readSecond_27 : decode cX6_readSecond 27 = .ok (.aload_n 0, 1) := by decide +kernel
theorem dX6_readSecond_28 : decode cX6_readSecond 28 = .ok (.getfield 74, 3) := by decide +kernel
theorem dX6_readSecond_31 : decode cX6_readSecond 31 = .ok (.ifCond .lt 27, 3) := by decide +kernel
theorem dX6_readSecond_34 : decode cX6_readSecond 34 = .ok (.aload_n 0, 1) := by decide +kernel
theorem dX6_readSecond_35 : decode cX6_readSecond 35 = .ok (.getfield 74, 3) := by decide +kernel
theorem dX6_readSecond_38 : decode cX6_readSecond 38 = .ok (.bipush 8, 2) := by decide +kernel
theorem dX6_readSecond_40 : decode cX6_readSecond 40 = .ok (.if_icmp .ge 18, 3) := by decide +kernel
theorem dX6_readSecond_43 : decode cX6_readSecond 43 = .ok (.aload_n 0, 1) := by decide +kernel
theorem dX6_readSecond_44 : decode cX6_readSecond 44 = .ok (.getfield 74, 3) := by decide +kernel
theorem dX6_readSecond_47 : decode cX6_readSecond 47 = .ok (.aload_n 0, 1) := by decide +kernel
theorem dX6_readSecond_48 : decode cX6_readSecond 48 = .ok (.getfield 83, 3) := by decide +kernel
theorem dX6_readSecond_51 : decode cX6_readSecond 51 = .ok (.if_icmp .eq 7, 3) := by decide +kernel
theorem dX6_readSecond_54 : decode cX6_readSecond 54 = .ok (.iconst 1, 1) := by decide +kernel
theorem dX6_readSecond_55 : decode cX6_readSecond 55 = .ok (.goto 4, 3) := by decide +kernel
