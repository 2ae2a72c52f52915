set_option maxRecDepth 20000 in
theorem gX7_needEnd_X7_needRange : GoodIn wsX7_needEnd (va_wsS RX7 48 yX7_needRange wsX7_needRange) := goodIn_app (goodIn_of _ (by decide +kernel)) ggX7_needEnd_X7_needRange
theorem dX7_needEnd_0 : decode cX7_needEnd 0 = .ok (.iload_n 0, 1) := by decide +kernel
theorem dX7_needEnd_1 : decode cX7_needEnd 1 = .ok (.iconst 0, 1) := by decide +kernel
theorem dX7_needEnd_2 : decode cX7_needEnd 2 = .ok (.iconst 1, 1) := by decide +kernel
theorem dX7_needEnd_3 : decode cX7_needEnd 3 = .ok (.invokestatic 48, 3) := by decide +kernel
theorem dX7_needEnd_6 : decode cX7_needEnd 6 = .ok (.return_, 1) := by decide +kernel
theorem dX7_needDifferent_0 : decode cX7_needDifferent 0 = .ok (.iload_n 0, 1) := by decide +kernel
theorem dX7_needDifferent_1 : decode cX7_needDifferent 1 = .ok (.iload_n 1, 1) := by decide +kernel
theorem dX7_needDifferent_2 : decode cX7_needDifferent 2 = .ok (.if_icmp .ne 13, 3) := by decide +kernel
theorem dX7_needDifferent_5 : decode cX7_needDifferent 5 = .ok (.new 144, 3) := by decide +kernel
theorem dX7_needDifferent_8 : decode cX7_needDifferent 8 = .ok (.dup, 1) := by decide +kernel
theorem dX7_needDifferent_9 : decode cX7_needDifferent 9 = .ok (.ldc 222, 2) := by decide +kernel
theorem dX7_needDifferent_11 : decode cX7_needDifferent 11 = .ok (.invokespecial 148, 3) := by decide +kernel
theorem dX7_needDifferent_14 : decode cX7_needDifferent 14 = .ok (.athrow, 1) := by decide +kernel
theorem dX7_needDifferent_15 : decode cX7_needDifferent 15 = .ok (.return_, 1) := by decide +kernel
set_option maxRecDepth 20000 in
theorem ggX7_needFaultRanges_X7_needRange : GoodIn wsX7_needFaultRanges wsX7_needRange := goodIn_ca (goodIn_r _ [5, 6, 7] (by decide +kernel) (by decide +kernel)) (goodIn_sub (fun _ h => List.mem_cons_of_mem _ (List.mem_append_right _ h)) (by decide +kernel))
set_option maxRecDepth 20000 in
theorem gX7_needFaultRanges_X7_needRange : GoodIn wsX7_needFaultRanges (va_wsS RX7 48 yX7_needRange wsX7_needRange) := goodIn_app (goodIn_of _ (by decide +kernel)) ggX7_needFaultRanges_X7_needRange
theorem dX7_needFaultRanges_0 : decode cX7_needFaultRanges 0 = .ok (.iload_n 1, 1) := by decide +kernel
theorem dX7_needFaultRanges_1 : decode cX7_needFaultRanges 1 = .ok (.iconst 1, 1) := by decide +kernel
theorem dX7_needFaultRanges_2 : decode cX7_needFaultRanges 2 = .ok (.aload_n 0, 1) := by decide +kernel
theorem dX7_needFaultRanges_3 : decode cX7_needFaultRanges 3 = .ok (.getfield 10, 3) := by decide +kernel
theorem dX7_needFaultRanges_6 : decode cX7_needFaultRanges 6 = .ok (.getfield 52, 3) := by decide +kernel
theorem dX7_needFaultRanges_9 : decode cX7_needFaultRanges 9 = .ok (.iconst 1, 1) := by decide +kernel
theorem dX7_needFaultRanges_10 : decode cX7_needFaultRanges 10 = .ok (.isub, 1) := by decide +kernel
theorem dX7_needFaultRanges_11 : decode cX7_needFaultRanges 11 = .ok (.invokestatic 48, 3) := by decide +kernel
theorem dX7_needFaultRanges_14 : decode cX7_needFaultRanges 14 = .ok (.iload_n 2, 1) := by decide +kernel
theorem dX7_needFaultRanges_15 : decode cX7_needFaultRanges 15 = .ok (.iconst 1, 1) := by decide +kernel
theorem dX7_needFaultRanges_16 : decode cX7_needFaultRanges 16 = .ok (.bipush 32, 2) := by decide +kernel
theorem dX7_needFaultRanges_18 : decode cX7_needFaultRanges 18 = .ok (.invokestatic 48, 3) := by decide +kernel
theorem dX7_needFaultRanges_21 : decode cX7_needFaultRanges 21 = .ok (.iload_n 3, 1) := by decide +kernel
theorem dX7_needFaultRanges_22 : decode cX7_needFaultRanges 22 = .ok (.iconst 1, 1) := by decide +kernel
theorem dX7_needFaultRanges_23 : decode cX7_needFaultRanges 23 = .ok (.iload_n 2, 1) := by decide +kernel
theorem dX7_needFaultRanges_24 : decode cX7_needFaultRanges 24 = .ok (.invokestatic 48, 3) := by decide +kernel
theorem dX7_needFaultRanges_27 : decode cX7_needFaultRanges 27 = .ok (.return_, 1) := by decide +kernel
set_option maxRecDepth 20000 in
theorem ggX7_needRoomForFault_Jx4a65c_size_8abf5 : GoodIn wsX7_needRoomForFault wsJx4a65c_size_8abf5 := goodIn_r _ [8, 9, 22, 23, 24] (by decide +kernel) (by decide +kernel)
set_option maxRecDepth 20000 in
theorem gX7_needRoomForFault_Jx4a65c_size_8abf5 : GoodIn wsX7_needRoomForFault (wsV RX7 95 RJx4a65c yJx4a65c_size_8abf5 wsJx4a65c_size_8abf5) := goodIn_app (goodIn_of _ (by decide +kernel)) ggX7_needRoomForFault_Jx4a65c_size_8abf5
theorem dX7_needRoomForFault_0 : decode cX7_needRoomForFault 0 = .ok (.aload_n 0, 1) := by decide +kernel
theorem dX7_needRoomForFault_1 : decode cX7_needRoomForFault 1 = .ok (.getfield 10, 3) := by decide +kernel
theorem dX7_needRoomForFault_4 : decode cX7_needRoomForFault 4 = .ok (.getfield 91, 3) := by decide +kernel
theorem dX7_needRoomForFault_7 : decode cX7_needRoomForFault 7 = .ok (.invokevirtual 95, 3) := by decide +kernel
theorem dX7_needRoomForFault_10 : decode cX7_needRoomForFault 10 = .ok (.bipush 10, 2) := by decide +kernel
theorem dX7_needRoomForFault_12 : decode cX7_needRoomForFault 12 = .ok (.if_icmp .lt 13, 3) := by decide +kernel
theorem dX7_needRoomForFault_15 : decode cX7_needRoomForFault 15 = .ok (.new 112, 3) := by decide +kernel
theorem dX7_needRoomForFault_18 : decode cX7_needRoomForFault 18 = .ok (.dup, 1) := by decide +kernel
theorem dX7_needRoomForFault_19 : decode cX7_needRoomForFault 19 = .ok (.ldc 224, 2) := by decide +kernel
theorem dX7_needRoomForFault_21 : decode cX7_needRoomForFault 21 = .ok (.invokespecial 116, 3) := by decide +kernel
theorem dX7_needRoomForFault_24 : decode cX7_needRoomForFault 24 = .ok (.athrow, 1) := by decide +kernel
theorem dX7_needRoomForFault_25 : decode cX7_needRoomForFault 25 = .ok (.return_, 1) := by decide +kernel
set_option maxRecDepth 20000 in
theorem ggX7_measure_X0_presentFaults : GoodIn wsX7_measure wsX0_presentFaults := goodIn_r _ [7, 8, 9, 10, 11, 12, 13, 14, 15, 16, 17, 18, 19, 20, 21, 22, 23, 24, 25, 26, 27, 28, 29, 30, 31, 32, 33, 34, 35, 36, 37, 38, 39, 129, 130, 131, 132, 133, 134, 135, 136, 137, 138, 139, 140, 141, 142, 143] (by decide +kernel) (by decide +kernel)
set_option maxRecDepth 20000 in
theorem gX7_measure_X0_presentFaults : GoodIn wsX7_measure (wsV RX7 226 RX0 yX0_presentFaults wsX0_presentFaults) := goodIn_app (goodIn_of _ (by decide +kernel)) ggX7_measure_X0_presentFaults
set_option maxRecDepth 20000 in
theorem ggX7_measure_X5_measure : GoodIn wsX7_measure wsX5_measure := goodIn_r _ [44, 45, 46, 47, 48, 49, 50, 43, 51, 52, 53, 54, 55, 56, 11, 12, 13, 14, 15, 57, 17, 18, 19, 20, 21, 22, 23, 24, 25, 26, 27, 28, 29, 30, 31, 32, 58, 59, 60, 36, 61, 62, 63, 64, 65, 66, 67, 68, 69, 70, 71, 72, 73, 74, 75, 76, 77, 78, 79, 80, 81, 82, 83, 84, 85, 86, 87, 6, 88, 89, 90, 91, 92, 93, 94, 95, 96, 97, 98, 99, 100, 101, 102, 103, 104, 105, 106, 107, 108, 109, 110, 111, 112, 113, 114, 115, 116, 117, 118, 119, 120, 121, 122, 123, 144, 145, 146, 147, 148, 149, 150, 151, 129, 130, 131, 132, 133, 134, 135, 139, 140, 141, 142, 143, 136, 137, 138, 152] (by decide +kernel) (by decide +kernel)
set_option maxRecDepth 20000 in
theorem gX7_measure_X5_measure : GoodIn wsX7_measure (wsV RX7 229 RX5 yX5_measure wsX5_measure) := goodIn_app (goodIn_of _ (by decide +kernel)) ggX7_measure_X5_measure
theorem dX7_measure_0 : decode cX7_measure 0 = .ok (.aload_n 0, 1) := by decide +kernel
theorem dX7_measure_1 : decode cX7_measure 1 = .ok (.getfield 19, 3) := by decide +kernel
theorem dX7_measure_4 : decode cX7_measure 4 = .ok (.aload_n 0, 1) := by decide +kernel
theorem dX7_measure_5 : decode cX7_measure 5 = .ok (.getfield 10, 3) := by decide +kernel
theorem dX7_measure_8 : decode cX7_measure 8 = .ok (.aload_n 0, 1) := by decide +kernel
theorem dX7_measure_9 : decode cX7_measure 9 = .ok (.getfield 10, 3) := by decide +kernel
theorem dX7_measure_12 : decode cX7_measure 12 = .ok (.aload_n 0, 1) := by decide +kernel
theorem dX7_measure_13 : decode cX7_measure 13 = .ok (.getfield 10, 3) := by decide +kernel
theorem dX7_measure_16 : decode cX7_measure 16 = .ok (.getfield 108, 3) := by decide +kernel
theorem dX7_measure_19 : decode cX7_measure 19 = .ok (.invokevirtual 226, 3) := by decide +kernel
theorem dX7_measure_22 : decode cX7_measure 22 = .ok (.invokevirtual 229, 3) := by decide +kernel
theorem dX7_measure_25 : decode cX7_measure 25 = .ok (.return_, 1) := by decide +kernel
set_option maxRecDepth 20000 in
theorem ggX7_measureOnwards_X0_presentFaults : GoodIn wsX7_measureOnwards wsX0_presentFaults := goodIn_r _ [7, 8, 9, 10, 11, 12, 13, 14, 15, 16, 17, 18, 19, 20, 21, 22, 23, 24, 25, 26, 27, 28, 29, 30, 31, 32, 33, 34, 35, 36, 37, 38, 39, 137, 138, 139, 140, 141, 142, 143, 144, 145, 146, 147, 148, 149, 150, 151] (by decide +kernel) (by decide +kernel)
set_option maxRecDepth 20000 in
theorem gX7_measureOnwards_X0_presentFaults : GoodIn wsX7_measureOnwards (wsV RX7 226 RX0 yX0_presentFaults wsX0_presentFaults) := goodIn_app (goodIn_of _ (by decide +kernel)) ggX7_measureOnwards_X0_presentFaults
set_option maxRecDepth 20000 in
theorem ggX7_measureOnwards_X5_measure : GoodIn wsX7_measureOnwards wsX5_measure := goodIn_r _ [44, 45, 46, 47, 48, 49, 50, 43, 51, 52, 53, 54, 55, 56, 11, 12, 13, 14, 15, 57, 17, 18, 19, 20, 21, 22, 23, 24, 25, 26, 27, 28, 29, 30, 31, 32, 58, 59, 60, 36, 61, 62, 63, 64, 65, 66, 67, 68, 69, 70, 71, 72, 73, 74, 75, 76, 77, 78, 79, 80, 81, 82, 83, 84, 85, 86, 87, 6, 88, 89, 90, 91, 92, 93, 94, 95, 96, 97, 98, 99, 100, 101, 102, 103, 104, 105, 106, 107, 108, 109, 110, 111, 112, 113, 114, 115, 116, 117, 118, 119, 120, 121, 122, 123, 129, 130, 131, 132, 133, 134, 135, 136, 137, 138, 139, 140, 141, 142, 143, 147, 148, 149, 150, 151, 144, 145, 146, 152] (by decide +kernel) (by decide +kernel)
set_option maxRecDepth 20000 in
theorem gX7_measureOnwards_X5_measure : GoodIn wsX7_measureOnwards (wsV RX7 229 RX5 yX5_measure wsX5_measure) := goodIn_app (goodIn_of _ (by decide +kernel)) ggX7_measureOnwards_X5_measure
theorem dX7_measureOnwards_0 : decode cX7_measureOnwards 0 = .ok (.aload_n 0, 1) := by decide +kernel
theorem dX7_measureOnwards_1 : decode cX7_measureOnwards 1 = .ok (.getfield 10, 3) := by decide +kernel
theorem dX7_measureOnwards_4 : decode cX7_measureOnwards 4 = .ok (.iload_n 1, 1) := by decide +kernel
theorem dX7_measureOnwards_5 : decode cX7_measureOnwards 5 = .ok (.invokevirtual 226, 3) := by decide +kernel
theorem dX7_measureOnwards_8 : decode cX7_measureOnwards 8 = .ok (.istore_n 2, 1) := by decide +kernel
theorem dX7_measureOnwards_9 : decode cX7_measureOnwards 9 = .ok (.iload_n 2, 1) := by decide +kernel
theorem dX7_measureOnwards_10 : decode cX7_measureOnwards 10 = .ok (.aload_n 0, 1) := by decide +kernel
theorem dX7_measureOnwards_11 : decode cX7_measureOnwards 11 = .ok (.getfield 19, 3) := by decide +kernel
theorem dX7_measureOnwards_14 : decode cX7_measureOnwards 14 = .ok (.getfield 232, 3) := by decide +kernel
theorem dX7_measureOnwards_17 : decode cX7_measureOnwards 17 = .ok (.if_icmp .eq 15, 3) := by decide +kernel
theorem dX7_measureOnwards_20 : decode cX7_measureOnwards 20 = .ok (.aload_n 0, 1) := by decide +kernel
theorem dX7_measureOnwards_21 : decode cX7_measureOnwards 21 = .ok (.getfield 19, 3) := by decide +kernel
theorem dX7_measureOnwards_24 : decode cX7_measureOnwards 24 = .ok (.aload_n 0, 1) := by decide +kernel
theorem dX7_measureOnwards_25 : decode cX7_measureOnwards 25 = .ok (.getfield 10, 3) := by decide +kernel
theorem dX7_measureOnwards_28 : decode cX7_measureOnwards 28 = .ok (.iload_n 2, 1) := by decide +kernel
theorem dX7_measureOnwards_29 : decode cX7_measureOnwards 29 = .ok (.invokevirtual 229, 3) := by decide +kernel
theorem dX7_measureOnwards_32 : decode cX7_measureOnwards 32 = .ok (.return_, 1) := by decide +kernel
set_option maxRecDepth 20000 in
theorem ggX7_textFitsCable_Jx4a65c_size_8abf5 : GoodIn wsX7_textFitsCable wsJx4a65c_size_8abf5 := goodIn_r _ [7, 8, 98, 99, 100] (by decide +kernel) (by decide +kernel)
set_option maxRecDepth 20000 in
theorem gX7_textFitsCable_Jx4a65c_size_8abf5 : GoodIn wsX7_textFitsCable (wsV RX7 95 RJx4a65c yJx4a65c_size_8abf5 wsJx4a65c_size_8abf5) := goodIn_app (goodIn_of _ (by decide +kernel)) ggX7_textFitsCable_Jx4a65c_size_8abf5
set_option maxRecDepth 20000 in
theorem ggX7_textFitsCable_X6_rewind : GoodIn wsX7_textFitsCable wsX6_rewind := goodIn_r _ [13, 14, 15, 88, 89, 90, 91, 92, 93, 94, 95, 96, 97] (by decide +kernel) (by decide +kernel)
set_option maxRecDepth 20000 in
theorem gX7_textFitsCable_X6_rewind : GoodIn wsX7_textFitsCable (wsV RX7 235 RX6 yX6_rewind wsX6_rewind) := goodIn_app (goodIn_of _ (by decide +kernel)) ggX7_textFitsCable_X6_rewind
set_option maxRecDepth 20000 in
theorem ggX7_textFitsCable_X6_readItem : GoodIn wsX7_textFitsCable wsX6_readItem := goodIn_r _ [19, 14, 20, 21, 22, 23, 12, 24, 25, 26, 27, 28, 29, 15, 30, 31, 32, 33, 34, 35, 36, 37, 38, 39, 40, 41, 42, 43, 44, 45, 46, 47, 48, 49, 50, 51, 52, 53, 54, 55, 56, 57, 58, 59, 60, 61, 62, 63, 64, 65, 66, 67, 68, 69, 70, 71, 72, 73, 74, 88, 89, 90, 91, 92, 93, 94, 95, 96, 97] (by decide +kernel) (by decide +kernel)
set_option maxRecDepth 20000 in
theorem gX7_textFitsCable_X6_readItem : GoodIn wsX7_textFitsCable (wsV RX7 238 RX6 yX6_readItem wsX6_readItem) := goodIn_app (goodIn_of _ (by decide +kernel)) ggX7_textFitsCable_X6_readItem
set_option maxRecDepth 20000 in
theorem ggX7_textFitsCable_X6_itemIsFault : GoodIn wsX7_textFitsCable wsX6_itemIsFault := goodIn_r _ [46, 40, 88, 89, 90, 91, 92, 93, 94, 95, 96, 97] (by decide +kernel) (by decide +kernel)
set_option maxRecDepth 20000 in
theorem gX7_textFitsCable_X6_itemIsFault : GoodIn wsX7_textFitsCable (wsV RX7 241 RX6 yX6_itemIsFault wsX6_itemIsFault) := goodIn_app (goodIn_of _ (by decide +kernel)) ggX7_textFitsCable_X6_itemIsFault
theorem dX7_textFitsCable_0 : decode cX7_textFitsCable 0 = .ok (.aload_n 0, 1) := by decide +kernel
theorem dX7_textFitsCable_1 : decode cX7_textFitsCable 1 = .ok (.getfield 10, 3) := by decide +kernel
theorem dX7_textFitsCable_4 : decode cX7_textFitsCable 4 = .ok (.getfield 91, 3) := by decide +kernel
theorem dX7_textFitsCable_7 : decode cX7_textFitsCable 7 = .ok (.invokevirtual 95, 3) := by decide +kernel
theorem dX7_textFitsCable_10 : decode cX7_textFitsCable 10 = .ok (.istore_n 1, 1) := by decide +kernel
theorem dX7_textFitsCable_11 : decode cX7_textFitsCable 11 = .ok (.aload_n 0, 1) := by decide +kernel
theorem dX7_textFitsCable_12 : decode cX7_textFitsCable 12 = .ok (.getfield 40, 3) := by decide +kernel
theorem dX7_textFitsCable_15 : decode cX7_textFitsCable 15 = .ok (.invokevirtual 235, 3) := by decide +kernel
theorem dX7_textFitsCable_18 : decode cX7_textFitsCable 18 = .ok (.iconst 0, 1) := by decide +kernel
theorem dX7_textFitsCable_19 : decode cX7_textFitsCable 19 = .ok (.istore_n 2, 1) := by decide +kernel
theorem dX7_textFitsCable_20 : decode cX7_textFitsCable 20 = .ok (.iload_n 2, 1) := by decide +kernel
theorem dX7_textFitsCable_21 : decode cX7_textFitsCable 21 = .ok (.bipush 50, 2) := by decide +kernel
theorem dX7_textFitsCable_23 : decode cX7_textFitsCable 23 = .ok (.if_icmp .ge 51, 3) := by decide +kernel
theorem dX7_textFitsCable_26 : decode cX7_textFitsCable 26 = .ok (.aload_n 0, 1) := by decide +kernel
theorem dX7_textFitsCable_27 : decode cX7_textFitsCable 27 = .ok (.getfield 40, 3) := by decide +kernel
theorem dX7_textFitsCable_30 : decode cX7_textFitsCable 30 = .ok (.invokevirtual 238, 3) := by decide +kernel
theorem dX7_textFitsCable_33 : decode cX7_textFitsCable 33 = .ok (.ifCond .eq 41, 3) := by decide +kernel
theorem dX7_textFitsCable_36 : decode cX7_textFitsCable 36 = .ok (.aload_n 0, 1) := by decide +kernel
theorem dX7_textFitsCable_37 : decode cX7_textFitsCable 37 = .ok (.getfield 40, 3) := by decide +kernel
theorem dX7_textFitsCable_40 : decode cX7_textFitsCable 40 = .ok (.invokevirtual 241, 3) := by decide +kernel
theorem dX7_textFitsCable_43 : decode cX7_textFitsCable 43 = .ok (.ifCond .eq 25, 3) := by decide +kernel
theorem dX7_textFitsCable_46 : decode cX7_textFitsCable 46 = .ok (.iinc 1 1, 3) := by decide +kernel
theorem dX7_textFitsCable_49 : decode cX7_textFitsCable 49 = .ok (.aload_n 0, 1) := by decide +kernel
theorem dX7_textFitsCable_50 : decode cX7_textFitsCable 50 = .ok (.getfield 40, 3) := by decide +kernel
theorem dX7_textFitsCable_53 : decode cX7_textFitsCable 53 = .ok (.getfield 244, 3) := by decide +kernel
theorem dX7_textFitsCable_56 : decode cX7_textFitsCable 56 = .ok (.aload_n 0, 1) := by decide +kernel
theorem dX7_textFitsCable_57 : decode cX7_textFitsCable 57 = .ok (.getfield 10, 3) := by decide +kernel
theorem dX7_textFitsCable_60 : decode cX7_textFitsCable 60 = .ok (.getfield 52, 3) := by decide +kernel
theorem dX7_textFitsCable_63 : decode cX7_textFitsCable 63 = .ok (.if_icmp .lt 5, 3) := by decide +kernel
theorem dX7_textFitsCable_66 : decode cX7_textFitsCable 66 = .ok (.iconst 0, 1) := by decide +kernel
theorem dX7_textFitsCable_67 : decode cX7_textFitsCable 67 = .ok (.ireturn, 1) := by decide +kernel
theorem dX7_textFitsCable_68 : decode cX7_textFitsCable 68 = .ok (.iinc 2 1, 3) := by decide +kernel
theorem dX7_textFitsCable_71 : decode cX7_textFitsCable 71 = .ok (.goto (-51), 3) := by decide +kernel
theorem dX7_textFitsCable_74 : decode cX7_textFitsCable 74 = .ok (.iload_n 1, 1) := by decide +kernel
theorem dX7_textFitsCable_75 : decode cX7_textFitsCable 75 = .ok (.bipush 10, 2) := by decide +kernel
theorem dX7_textFitsCable_77 : decode cX7_textFitsCable 77 = .ok (.if_icmp .gt 7, 3) := by decide +kernel
theorem dX7_textFitsCable_80 : decode cX7_textFitsCable 80 = .ok (.iconst 1, 1) := by decide +kernel
theorem dX7_textFitsCable_81 : decode cX7_textFitsCable 81 = .ok (.goto 4, 3) := by decide +kernel
theorem dX7_textFitsCable_84 : decode cX7_textFitsCable 84 = .ok (.iconst 0, 1) := by decide +kernel
theorem dX7_textFitsCable_85 : decode cX7_textFitsCable 85 = .ok (.ireturn, 1) := by decide +kernel
set_option maxRecDepth 20000 in
theorem ggX7_carryOutText_X6_rewind : GoodIn wsX7_carryOutText wsX6_rewind := goodIn_r _ [10, 11, 12, 165, 166, 167, 168, 169, 170, 171, 172, 173, 174] (by decide +kernel) (by decide +kernel)
set_option maxRecDepth 20000 in
theorem gX7_carryOutText_X6_rewind : GoodIn wsX7_carryOutText (wsV RX7 235 RX6 yX6_rewind wsX6_rewind) := goodIn_app (goodIn_of _ (by decide +kernel)) ggX7_carryOutText_X6_rewind
set_option maxRecDepth 20000 in
theorem ggX7_carryOutText_X6_readItem : GoodIn wsX7_carryOutText wsX6_readItem := goodIn_r _ [16, 11, 17, 18, 19, 20, 9, 21, 22, 23, 24, 25, 26, 12, 27, 28, 29, 30, 31, 32, 33, 34, 35, 36, 37, 38, 39, 40, 41, 42, 43, 44, 45, 46, 47, 48, 49, 50, 51, 52, 53, 54, 55, 56, 57, 58, 59, 60, 61, 62, 63, 64, 65, 66, 67, 68, 69, 70, 71, 165, 166, 167, 168, 169, 170, 171, 172, 173, 174] (by decide +kernel) (by decide +kernel)
set_option maxRecDepth 20000 in
theorem gX7_carryOutText_X6_readItem : GoodIn wsX7_carryOutText (wsV RX7 238 RX6 yX6_readItem wsX6_readItem) := goodIn_app (goodIn_of _ (by decide +kernel)) ggX7_carryOutText_X6_readItem
set_option maxRecDepth 20000 in
theorem ggX7_carryOutText_X6_itemIsFault : GoodIn wsX7_carryOutText wsX6_itemIsFault := goodIn_r _ [43, 37, 165, 166, 167, 168, 169, 170, 171, 172, 173, 174] (by decide +kernel) (by decide +kernel)
set_option maxRecDepth 20000 in
theorem gX7_carryOutText_X6_itemIsFault : GoodIn wsX7_carryOutText (wsV RX7 241 RX6 yX6_itemIsFault wsX6_itemIsFault) := goodIn_app (goodIn_of _ (by decide +kernel)) ggX7_carryOutText_X6_itemIsFault
set_option maxRecDepth 20000 in
theorem ggX7_carryOutText_X2_init : GoodIn wsX7_carryOutText wsX2_init := goodIn_r _ [75, 76, 77, 78, 79, 80, 81, 82, 83, 160, 161, 162, 163, 164] (by decide +kernel) (by decide +kernel)
set_option maxRecDepth 20000 in
theorem gX7_carryOutText_X2_init : GoodIn wsX7_carryOutText (wsX2_init) := ggX7_carryOutText_X2_init
set_option maxRecDepth 20000 in
theorem ggX7_carryOutText_X0_addFault : GoodIn wsX7_carryOutText wsX0_addFault := goodIn_r _ [88, 89, 90, 91, 92, 93, 94, 95, 96, 97, 98, 99, 100, 101, 102, 103, 104, 105, 106, 107, 108, 109, 110, 111, 112, 113, 114, 115, 116, 117, 118, 119, 120, 121, 122, 123, 124, 125, 126, 127, 128, 129, 130, 131, 132, 133, 134, 135, 136, 137, 138, 139, 140, 141, 142, 143, 144, 145, 146, 147, 148, 149, 175, 176, 177, 178, 179, 180, 181, 182, 183, 184] (by decide +kernel) (by decide +kernel)
set_option maxRecDepth 20000 in
theorem gX7_carryOutText_X0_addFault : GoodIn wsX7_carryOutText (wsV RX7 87 RX0 yX0_addFault wsX0_addFault) := goodIn_app (goodIn_of _ (by decide +kernel)) ggX7_carryOutText_X0_addFault
set_option maxRecDepth 20000 in
theorem ggX7_carryOutText_X0_swapWires : GoodIn wsX7_carryOutText wsX0_swapWires := goodIn_r _ [153, 154, 175, 176, 177, 178, 179, 180, 181] (by decide +kernel) (by decide +kernel)
set_option maxRecDepth 20000 in
theorem gX7_carryOutText_X0_swapWires : GoodIn wsX7_carryOutText (wsV RX7 69 RX0 yX0_swapWires wsX0_swapWires) := goodIn_app (goodIn_of _ (by decide +kernel)) ggX7_carryOutText_X0_swapWires
theorem dX7_carryOutText_0 : decode cX7_carryOutText 0 = .ok (.iconst 0, 1) := by decide +kernel
theorem dX7_carryOutText_1 : decode cX7_carryOutText 1 = .ok (.istore_n 1, 1) := by decide +kernel
theorem dX7_carryOutText_2 : decode cX7_carryOutText 2 = .ok (.aload_n 0, 1) := by decide +kernel
theorem dX7_carryOutText_3 : decode cX7_carryOutText 3 = .ok (.getfield 40, 3) := by decide +kernel
theorem dX7_carryOutText_6 : decode cX7_carryOutText 6 = .ok (.invokevirtual 235, 3) := by decide +kernel
theorem dX7_carryOutText_9 : decode cX7_carryOutText 9 = .ok (.iconst 0, 1) := by decide +kernel
theorem dX7_carryOutText_10 : decode cX7_carryOutText 10 = .ok (.istore_n 2, 1) := by decide +kernel
theorem dX7_carryOutText_11 : decode cX7_carryOutText 11 = .ok (.iload_n 2, 1) := by decide +kernel
theorem dX7_carryOutText_12 : decode cX7_carryOutText 12 = .ok (.bipush 50, 2) := by decide +kernel
theorem dX7_carryOutText_14 : decode cX7_carryOutText 14 = .ok (.if_icmp .ge 123, 3) := by decide +kernel
theorem dX7_carryOutText_17 : decode cX7_carryOutText 17 = .ok (.aload_n 0, 1) := by decide +kernel
theorem dX7_carryOutText_18 : decode cX7_carryOutText 18 = .ok (.getfield 40, 3) := by decide +kernel
theorem dX7_carryOutText_21 : decode cX7_carryOutText 21 = .ok (.invokevirtual 238, 3) := by decide +kernel
theorem dX7_carryOutText_24 : decode cX7_carryOutText 24 = .ok (.ifCond .eq 113, 3) := by decide +kernel
theorem dX7_carryOutText_27 : decode cX7_carryOutText 27 = .ok (.iinc 1 1, 3) := by decide +kernel
theorem dX7_carryOutText_30 : decode cX7_carryOutText 30 = .ok (.aload_n 0, 1) := by decide +kernel
theorem dX7_carryOutText_31 : decode cX7_carryOutText 31 = .ok (.getfield 40, 3) := by decide +kernel
theorem dX7_carryOutText_34 : decode cX7_carryOutText 34 = .ok (.invokevirtual 241, 3) := by decide +kernel
theorem dX7_carryOutText_37 : decode cX7_carryOutText 37 = .ok (.ifCond .eq 56, 3) := by decide +kernel
theorem dX7_carryOutText_40 : decode cX7_carryOutText 40 = .ok (.aload_n 0, 1) := by decide +kernel
theorem dX7_carryOutText_41 : decode cX7_carryOutText 41 = .ok (.getfield 10, 3) := by decide +kernel
theorem dX7_carryOutText_44 : decode cX7_carryOutText 44 = .ok (.new 82, 3) := by decide +kernel
theorem dX7_carryOutText_47 : decode cX7_carryOutText 47 = .ok (.dup, 1) := by decide +kernel
theorem dX7_carryOutText_48 : decode cX7_carryOutText 48 = .ok (.aload_n 0, 1) := by decide +kernel
theorem dX7_carryOutText_49 : decode cX7_carryOutText 49 = .ok (.getfield 40, 3) := by decide +kernel
theorem dX7_carryOutText_52 : decode cX7_carryOutText 52 = .ok (.getfield 247, 3) := by decide +kernel
theorem dX7_carryOutText_55 : decode cX7_carryOutText 55 = .ok (.aload_n 0, 1) := by decide +kernel
theorem dX7_carryOutText_56 : decode cX7_carryOutText 56 = .ok (.getfield 40, 3) := by decide +kernel
theorem dX7_carryOutText_59 : decode cX7_carryOutText 59 = .ok (.getfield 250, 3) := by decide +kernel
theorem dX7_carryOutText_62 : decode cX7_carryOutText 62 = .ok (.aload_n 0, 1) := by decide +kernel
theorem dX7_carryOutText_63 : decode cX7_carryOutText 63 = .ok (.getfield 40, 3) := by decide +kernel
theorem dX7_carryOutText_66 : decode cX7_carryOutText 66 = .ok (.getfield 244, 3) := by decide +kernel
theorem dX7_carryOutText_69 : decode cX7_carryOutText 69 = .ok (.aload_n 0, 1) := by decide +kernel
theorem dX7_carryOutText_70 : decode cX7_carryOutText 70 = .ok (.getfield 40, 3) := by decide +kernel
theorem dX7_carryOutText_73 : decode cX7_carryOutText 73 = .ok (.getfield 253, 3) := by decide +kernel
theorem dX7_carryOutText_76 : decode cX7_carryOutText 76 = .ok (.aload_n 0, 1) := by decide +kernel
theorem dX7_carryOutText_77 : decode cX7_carryOutText 77 = .ok (.getfield 40, 3) := by decide +kernel
theorem dX7_carryOutText_80 : decode cX7_carryOutText 80 = .ok (.getfield 256, 3) := by decide +kernel
theorem dX7_carryOutText_83 : decode cX7_carryOutText 83 = .ok (.invokespecial 84, 3) := by decide +kernel
theorem dX7_carryOutText_86 : decode cX7_carryOutText 86 = .ok (.invokevirtual 87, 3) := by decide +kernel
theorem dX7_carryOutText_89 : decode cX7_carryOutText 89 = .ok (.pop, 1) := by decide +kernel
theorem dX7_carryOutText_90 : decode cX7_carryOutText 90 = .ok (.goto 41, 3) := by decide +kernel
theorem dX7_carryOutText_93 : decode cX7_carryOutText 93 = .ok (.aload_n 0, 1) := by decide +kernel
theorem dX7_carryOutText_94 : decode cX7_carryOutText 94 = .ok (.getfield 10, 3) := by decide +kernel
theorem dX7_carryOutText_97 : decode cX7_carryOutText 97 = .ok (.aload_n 0, 1) := by decide +kernel
theorem dX7_carryOutText_98 : decode cX7_carryOutText 98 = .ok (.getfield 40, 3) := by decide +kernel
theorem dX7_carryOutText_101 : decode cX7_carryOutText 101 = .ok (.getfield 259, 3) := by decide +kernel
theorem dX7_carryOutText_104 : decode cX7_carryOutText 104 = .ok (.bipush 110, 2) := by decide +kernel
theorem dX7_carryOutText_106 : decode cX7_carryOutText 106 = .ok (.if_icmp .ne 7, 3) := by decide +kernel
theorem dX7_carryOutText_109 : decode cX7_carryOutText 109 = .ok (.iconst 0, 1) := by decide +kernel
theorem dX7_carryOutText_110 : decode cX7_carryOutText 110 = .ok (.goto 4, 3) := by decide +kernel
theorem dX7_carryOutText_113 : decode cX7_carryOutText 113 = .ok (.iconst 1, 1) := by decide +kernel
theorem dX7_carryOutText_114 : decode cX7_carryOutText 114 = .ok (.aload_n 0, 1) := by decide +kernel
theorem dX7_carryOutText_115 : decode cX7_carryOutText 115 = .ok (.getfield 40, 3) := by decide +kernel
theorem dX7_carryOutText_118 : decode cX7_carryOutText 118 = .ok (.getfield 247, 3) := by decide +kernel
theorem dX7_carryOutText_121 : decode cX7_carryOutText 121 = .ok (.aload_n 0, 1) := by decide +kernel
theorem dX7_carryOutText_122 : decode cX7_carryOutText 122 = .ok (.getfield 40, 3) := by decide +kernel
theorem dX7_carryOutText_125 : decode cX7_carryOutText 125 = .ok (.getfield 250, 3) := by decide +kernel
theorem dX7_carryOutText_128 : decode cX7_carryOutText 128 = .ok (.invokevirtual 69, 3) := by decide +kernel
theorem dX7_carryOutText_131 : decode cX7_carryOutText 131 = .ok (.iinc 2 1, 3) := by decide +kernel
theorem dX7_carryOutText_134 : decode cX7_carryOutText 134 = .ok (.goto (-123), 3) := by decide +kernel
theorem dX7_carryOutText_137 : decode cX7_carryOutText 137 = .ok (.iload_n 1, 1) := by decide +kernel
theorem dX7_carryOutText_138 : decode cX7_carryOutText 138 = .ok (.ireturn, 1) := by decide +kernel
set_option maxRecDepth 20000 in
theorem ggX7_identifiedUnit_X5_statusOf : GoodIn wsX7_identifiedUnit wsX5_statusOf := goodIn_r _ [7, 8, 9, 10, 6, 11, 12, 13, 14, 15, 16, 17, 18, 19, 20, 21, 22, 23, 24, 25, 26, 27, 50, 51, 52, 53, 54, 55, 56, 57] (by decide +kernel) (by decide +kernel)
set_option maxRecDepth 20000 in
theorem gX7_identifiedUnit_X5_statusOf : GoodIn wsX7_identifiedUnit (wsV RX7 161 RX5 yX5_statusOf wsX5_statusOf) := goodIn_app (goodIn_of _ (by decide +kernel)) ggX7_identifiedUnit_X5_statusOf
set_option maxRecDepth 20000 in
theorem ggX7_identifiedUnit_X0_isSplit : GoodIn wsX7_identifiedUnit wsX0_isSplit := goodIn_r _ [32, 33, 34, 35, 31, 36, 37, 43, 44, 45, 46, 47, 48, 49] (by decide +kernel) (by decide +kernel)
set_option maxRecDepth 20000 in
theorem gX7_identifiedUnit_X0_isSplit : GoodIn wsX7_identifiedUnit (wsV RX7 262 RX0 yX0_isSplit wsX0_isSplit) := goodIn_app (goodIn_of _ (by decide +kernel)) ggX7_identifiedUnit_X0_isSplit
theorem dX7_identifiedUnit_0 : decode cX7_identifiedUnit 0 = .ok (.aload_n 0, 1) := by decide +kernel
theorem dX7_identifiedUnit_1 : decode cX7_identifiedUnit 1 = .ok (.getfield 10, 3) := by decide +kernel
theorem dX7_identifiedUnit_4 : decode cX7_identifiedUnit 4 = .ok (.getfield 105, 3) := by decide +kernel
theorem dX7_identifiedUnit_7 : decode cX7_identifiedUnit 7 = .ok (.ifCond .ne 5, 3) := by decide +kernel
theorem dX7_identifiedUnit_10 : decode cX7_identifiedUnit 10 = .ok (.iconst (-1), 1) := by decide +kernel
theorem dX7_identifiedUnit_11 : decode cX7_identifiedUnit 11 = .ok (.ireturn, 1) := by decide +kernel
theorem dX7_identifiedUnit_12 : decode cX7_identifiedUnit 12 = .ok (.iconst 0, 1) := by decide +kernel
theorem dX7_identifiedUnit_13 : decode cX7_identifiedUnit 13 = .ok (.istore_n 1, 1) := by decide +kernel
theorem dX7_identifiedUnit_14 : decode cX7_identifiedUnit 14 = .ok (.iload_n 1, 1) := by decide +kernel
theorem dX7_identifiedUnit_15 : decode cX7_identifiedUnit 15 = .ok (.iconst 4, 1) := by decide +kernel
theorem dX7_identifiedUnit_16 : decode cX7_identifiedUnit 16 = .ok (.if_icmp .ge 66, 3) := by decide +kernel
theorem dX7_identifiedUnit_19 : decode cX7_identifiedUnit 19 = .ok (.aload_n 0, 1) := by decide +kernel
theorem dX7_identifiedUnit_20 : decode cX7_identifiedUnit 20 = .ok (.getfield 19, 3) := by decide +kernel
theorem dX7_identifiedUnit_23 : decode cX7_identifiedUnit 23 = .ok (.iconst 2, 1) := by decide +kernel
theorem dX7_identifiedUnit_24 : decode cX7_identifiedUnit 24 = .ok (.iload_n 1, 1) := by decide +kernel
theorem dX7_identifiedUnit_25 : decode cX7_identifiedUnit 25 = .ok (.imul, 1) := by decide +kernel
theorem dX7_identifiedUnit_26 : decode cX7_identifiedUnit 26 = .ok (.invokevirtual 161, 3) := by decide +kernel
theorem dX7_identifiedUnit_29 : decode cX7_identifiedUnit 29 = .ok (.ifCond .ne 22, 3) := by decide +kernel
theorem dX7_identifiedUnit_32 : decode cX7_identifiedUnit 32 = .ok (.aload_n 0, 1) := by decide +kernel
theorem dX7_identifiedUnit_33 : decode cX7_identifiedUnit 33 = .ok (.getfield 19, 3) := by decide +kernel
theorem dX7_identifiedUnit_36 : decode cX7_identifiedUnit 36 = .ok (.iconst 2, 1) := by decide +kernel
theorem dX7_identifiedUnit_37 : decode cX7_identifiedUnit 37 = .ok (.iload_n 1, 1) := by decide +kernel
theorem dX7_identifiedUnit_38 : decode cX7_identifiedUnit 38 = .ok (.imul, 1) := by decide +kernel
theorem dX7_identifiedUnit_39 : decode cX7_identifiedUnit 39 = .ok (.iconst 1, 1) := by decide +kernel
theorem dX7_identifiedUnit_40 : decode cX7_identifiedUnit 40 = .ok (.iadd, 1) := by decide +kernel
theorem dX7_identifiedUnit_41 : decode cX7_identifiedUnit 41 = .ok (.invokevirtual 161, 3) := by decide +kernel
theorem dX7_identifiedUnit_44 : decode cX7_identifiedUnit 44 = .ok (.ifCond .ne 7, 3) := by decide +kernel
theorem dX7_identifiedUnit_47 : decode cX7_identifiedUnit 47 = .ok (.iconst 1, 1) := by decide +kernel
theorem dX7_identifiedUnit_48 : decode cX7_identifiedUnit 48 = .ok (.goto 4, 3) := by decide +kernel
theorem dX7_identifiedUnit_51 : decode cX7_identifiedUnit 51 = .ok (.iconst 0, 1) := by decide +kernel
theorem dX7_identifiedUnit_52 : decode cX7_identifiedUnit 52 = .ok (.istore_n 2, 1) := by decide +kernel
theorem dX7_identifiedUnit_53 : decode cX7_identifiedUnit 53 = .ok (.iload_n 2, 1) := by decide +kernel
theorem dX7_identifiedUnit_54 : decode cX7_identifiedUnit 54 = .ok (.ifCond .eq 22, 3) := by decide +kernel
theorem dX7_identifiedUnit_57 : decode cX7_identifiedUnit 57 = .ok (.aload_n 0, 1) := by decide +kernel
theorem dX7_identifiedUnit_58 : decode cX7_identifiedUnit 58 = .ok (.getfield 10, 3) := by decide +kernel
theorem dX7_identifiedUnit_61 : decode cX7_identifiedUnit 61 = .ok (.iload_n 1, 1) := by decide +kernel
theorem dX7_identifiedUnit_62 : decode cX7_identifiedUnit 62 = .ok (.invokevirtual 262, 3) := by decide +kernel
theorem dX7_identifiedUnit_65 : decode cX7_identifiedUnit 65 = .ok (.ifCond .ne 11, 3) := by decide +kernel
theorem dX7_identifiedUnit_68 : decode cX7_identifiedUnit 68 = .ok (.aload_n 0, 1) := by decide +kernel
theorem dX7_identifiedUnit_69 : decode cX7_identifiedUnit 69 = .ok (.getfield 10, 3) := by decide +kernel
theorem dX7_identifiedUnit_72 : decode cX7_identifiedUnit 72 = .ok (.getfield 105, 3) := by decide +kernel
theorem dX7_identifiedUnit_75 : decode cX7_identifiedUnit 75 = .ok (.ireturn, 1) := by decide +kernel
theorem dX7_identifiedUnit_76 : decode cX7_identifiedUnit 76 = .ok (.iinc 1 1, 3) := by decide +kernel
theorem dX7_identifiedUnit_79 : decode cX7_identifiedUnit 79 = .ok (.goto (-65), 3) := by decide +kernel
theorem dX7_identifiedUnit_82 : decode cX7_identifiedUnit 82 = .ok (.iconst (-1), 1) := by decide +kernel
theorem dX7_identifiedUnit_83 : decode cX7_identifiedUnit 83 = .ok (.ireturn, 1) := by decide +kernel
set_option maxRecDepth 20000 in
theorem ggX7_explanationNumber_X1_cuts : GoodIn wsX7_explanationNumber wsX1_cuts := goodIn_r _ [8, 9, 10, 75, 76, 77, 78, 79] (by decide +kernel) (by decide +kernel)
set_option maxRecDepth 20000 in
theorem gX7_explanationNumber_X1_cuts : GoodIn wsX7_explanationNumber (wsV RX7 266 RX1 yX1_cuts wsX1_cuts) := goodIn_app (goodIn_of _ (by decide +kernel)) ggX7_explanationNumber_X1_cuts
set_option maxRecDepth 20000 in
theorem ggX7_explanationNumber_X5_shortsNeeded : GoodIn wsX7_explanationNumber wsX5_shortsNeeded := goodIn_r _ [15, 16, 17, 18, 19, 20, 21, 22, 23, 14, 24, 25, 26, 27, 28, 29, 30, 31, 32, 33, 34, 35, 80, 81, 82, 83, 84, 85, 86, 87] (by decide +kernel) (by decide +kernel)
set_option maxRecDepth 20000 in
theorem gX7_explanationNumber_X5_shortsNeeded : GoodIn wsX7_explanationNumber (wsV RX7 269 RX5 yX5_shortsNeeded wsX5_shortsNeeded) := goodIn_app (goodIn_of _ (by decide +kernel)) ggX7_explanationNumber_X5_shortsNeeded
set_option maxRecDepth 20000 in
theorem ggX7_explanationNumber_X1_exchanges : GoodIn wsX7_explanationNumber wsX1_exchanges := goodIn_r _ [39, 40, 75, 76, 77, 78, 79] (by decide +kernel) (by decide +kernel)
set_option maxRecDepth 20000 in
theorem gX7_explanationNumber_X1_exchanges : GoodIn wsX7_explanationNumber (wsV RX7 272 RX1 yX1_exchanges wsX1_exchanges) := goodIn_app (goodIn_of _ (by decide +kernel)) ggX7_explanationNumber_X1_exchanges
set_option maxRecDepth 20000 in
theorem ggX7_explanationNumber_X0_splitsNeeded : GoodIn wsX7_explanationNumber wsX0_splitsNeeded := goodIn_r _ [45, 46, 47, 48, 49, 50, 51, 52, 53, 54, 55, 44, 56, 57, 58, 59, 60, 61, 62, 63, 64, 65, 66, 67, 68, 69, 88, 89, 90, 91, 92, 93, 94, 95] (by decide +kernel) (by decide +kernel)
set_option maxRecDepth 20000 in
theorem gX7_explanationNumber_X0_splitsNeeded : GoodIn wsX7_explanationNumber (wsV RX7 275 RX0 yX0_splitsNeeded wsX0_splitsNeeded) := goodIn_app (goodIn_of _ (by decide +kernel)) ggX7_explanationNumber_X0_splitsNeeded
theorem dX7_explanationNumber_0 : decode cX7_explanationNumber 0 = .ok (.aload_n 0, 1) := by decide +kernel
theorem dX7_explanationNumber_1 : decode cX7_explanationNumber 1 = .ok (.getfield 26, 3) := by decide +kernel
theorem dX7_explanationNumber_4 : decode cX7_explanationNumber 4 = .ok (.invokevirtual 266, 3) := by decide +kernel
theorem dX7_explanationNumber_7 : decode cX7_explanationNumber 7 = .ok (.istore_n 2, 1) := by decide +kernel
theorem dX7_explanationNumber_8 : decode cX7_explanationNumber 8 = .ok (.aload_n 0, 1) := by decide +kernel
theorem dX7_explanationNumber_9 : decode cX7_explanationNumber 9 = .ok (.getfield 19, 3) := by decide +kernel
theorem dX7_explanationNumber_12 : decode cX7_explanationNumber 12 = .ok (.invokevirtual 269, 3) := by decide +kernel
theorem dX7_explanationNumber_15 : decode cX7_explanationNumber 15 = .ok (.istore_n 3, 1) := by decide +kernel
theorem dX7_explanationNumber_16 : decode cX7_explanationNumber 16 = .ok (.aload_n 0, 1) := by decide +kernel
theorem dX7_explanationNumber_17 : decode cX7_explanationNumber 17 = .ok (.getfield 26, 3) := by decide +kernel
theorem dX7_explanationNumber_20 : decode cX7_explanationNumber 20 = .ok (.invokevirtual 272, 3) := by decide +kernel
theorem dX7_explanationNumber_23 : decode cX7_explanationNumber 23 = .ok (.istore 4, 2) := by decide +kernel
theorem dX7_explanationNumber_25 : decode cX7_explanationNumber 25 = .ok (.aload_n 0, 1) := by decide +kernel
theorem dX7_explanationNumber_26 : decode cX7_explanationNumber 26 = .ok (.getfield 10, 3) := by decide +kernel
theorem dX7_explanationNumber_29 : decode cX7_explanationNumber 29 = .ok (.invokevirtual 275, 3) := by decide +kernel
theorem dX7_explanationNumber_32 : decode cX7_explanationNumber 32 = .ok (.istore 5, 2) := by decide +kernel
theorem dX7_explanationNumber_34 : decode cX7_explanationNumber 34 = .ok (.iload_n 1, 1) := by decide +kernel
theorem dX7_explanationNumber_35 : decode cX7_explanationNumber 35 = .ok (.tableswitch 39 0 3 #[29, 31, 33, 36], 29) := by decide +kernel
theorem dX7_explanationNumber_64 : decode cX7_explanationNumber 64 = .ok (.iload_n 2, 1) := by decide +kernel
theorem dX7_explanationNumber_65 : decode cX7_explanationNumber 65 = .ok (.ireturn, 1) := by decide +kernel
theorem dX7_explanationNumber_66 : decode cX7_explanationNumber 66 = .ok (.iload_n 3, 1) := by decide +kernel
theorem dX7_explanationNumber_67 : decode cX7_explanationNumber 67 = .ok (.ireturn, 1) := by decide +kernel
theorem dX7_explanationNumber_68 : decode cX7_explanationNumber 68 = .ok (.iload 4, 2) := by decide +kernel
theorem dX7_explanationNumber_70 : decode cX7_explanationNumber 70 = .ok (.ireturn, 1) := by decide +kernel
theorem dX7_explanationNumber_71 : decode cX7_explanationNumber 71 = .ok (.iload 5, 2) := by decide +kernel
theorem dX7_explanationNumber_73 : decode cX7_explanationNumber 73 = .ok (.ireturn, 1) := by decide +kernel
theorem dX7_explanationNumber_74 : decode cX7_explanationNumber 74 = .ok (.iload_n 2, 1) := by decide +kernel
theorem dX7_explanationNumber_75 : decode cX7_explanationNumber 75 = .ok (.iload_n 3, 1) := by decide +kernel
theorem dX7_explanationNumber_76 : decode cX7_explanationNumber 76 = .ok (.iadd, 1) := by decide +kernel
theorem dX7_explanationNumber_77 : decode cX7_explanationNumber 77 = .ok (.iload 4, 2) := by decide +kernel
theorem dX7_explanationNumber_79 : decode cX7_explanationNumber 79 = .ok (.iadd, 1) := by decide +kernel
theorem dX7_explanationNumber_80 : decode cX7_explanationNumber 80 = .ok (.iload 5, 2) := by decide +kernel
theorem dX7_explanationNumber_82 : decode cX7_explanationNumber 82 = .ok (.iadd, 1) := by decide +kernel
theorem dX7_explanationNumber_83 : decode cX7_explanationNumber 83 = .ok (.ireturn, 1) := by decide +kernel
set_option maxRecDepth 20000 in
theorem ggX7_numberOf_Jx4a65c_size_8abf5 : GoodIn wsX7_numberOf wsJx4a65c_size_8abf5 := goodIn_r _ [7, 8, 64, 65, 66] (by decide +kernel) (by decide +kernel)
set_option maxRecDepth 20000 in
theorem gX7_numberOf_Jx4a65c_size_8abf5 : GoodIn wsX7_numberOf (wsV RX7 95 RJx4a65c yJx4a65c_size_8abf5 wsJx4a65c_size_8abf5) := goodIn_app (goodIn_of _ (by decide +kernel)) ggX7_numberOf_Jx4a65c_size_8abf5
set_option maxRecDepth 20000 in
theorem ggX7_numberOf_J6_bitCount_0f7a4 : GoodIn wsX7_numberOf wsJ6_bitCount_0f7a4 := goodIn_r _ [12, 13, 14, 15] (by decide +kernel) (by decide +kernel)
set_option maxRecDepth 20000 in
theorem gX7_numberOf_J6_bitCount_0f7a4 : GoodIn wsX7_numberOf (va_wsS RX7 281 yJ6_bitCount_0f7a4 wsJ6_bitCount_0f7a4) := goodIn_app (goodIn_of _ (by decide +kernel)) ggX7_numberOf_J6_bitCount_0f7a4
set_option maxRecDepth 20000 in
theorem ggX7_numberOf_X5_size : GoodIn wsX7_numberOf wsX5_size := goodIn_r _ [20, 21, 22, 23, 19, 24, 25, 26, 27, 28, 29, 56, 57, 58, 59, 60, 61, 62, 63] (by decide +kernel) (by decide +kernel)
set_option maxRecDepth 20000 in
theorem gX7_numberOf_X5_size : GoodIn wsX7_numberOf (wsV RX7 286 RX5 yX5_size wsX5_size) := goodIn_app (goodIn_of _ (by decide +kernel)) ggX7_numberOf_X5_size
set_option maxRecDepth 20000 in
theorem ggX7_numberOf_X0_splitPairs : GoodIn wsX7_numberOf wsX0_splitPairs := goodIn_r _ [34, 35, 36, 37, 33, 38, 39, 40, 41, 42, 43, 49, 50, 51, 52, 53, 54, 55] (by decide +kernel) (by decide +kernel)
set_option maxRecDepth 20000 in
theorem gX7_numberOf_X0_splitPairs : GoodIn wsX7_numberOf (wsV RX7 287 RX0 yX0_splitPairs wsX0_splitPairs) := goodIn_app (goodIn_of _ (by decide +kernel)) ggX7_numberOf_X0_splitPairs
theorem dX7_numberOf_0 : decode cX7_numberOf 0 = .ok (.iload_n 1, 1) := by decide +kernel
theorem dX7_numberOf_1 : decode cX7_numberOf 1 = .ok (.tableswitch 120 0 7 #[47, 55, 63, 71, 79, 90, 101, 109], 47) := by decide +kernel
theorem dX7_numberOf_48 : decode cX7_numberOf 48 = .ok (.aload_n 0, 1) := by decide +kernel
theorem dX7_numberOf_49 : decode cX7_numberOf 49 = .ok (.getfield 10, 3) := by decide +kernel
theorem dX7_numberOf_52 : decode cX7_numberOf 52 = .ok (.getfield 52, 3) := by decide +kernel
theorem dX7_numberOf_55 : decode cX7_numberOf 55 = .ok (.ireturn, 1) := by decide +kernel
theorem dX7_numberOf_56 : decode cX7_numberOf 56 = .ok (.aload_n 0, 1) := by decide +kernel
theorem dX7_numberOf_57 : decode cX7_numberOf 57 = .ok (.getfield 10, 3) := by decide +kernel
theorem dX7_numberOf_60 : decode cX7_numberOf 60 = .ok (.getfield 278, 3) := by decide +kernel
theorem dX7_numberOf_63 : decode cX7_numberOf 63 = .ok (.ireturn, 1) := by decide +kernel
theorem dX7_numberOf_64 : decode cX7_numberOf 64 = .ok (.aload_n 0, 1) := by decide +kernel
theorem dX7_numberOf_65 : decode cX7_numberOf 65 = .ok (.getfield 10, 3) := by decide +kernel
theorem dX7_numberOf_68 : decode cX7_numberOf 68 = .ok (.getfield 105, 3) := by decide +kernel
theorem dX7_numberOf_71 : decode cX7_numberOf 71 = .ok (.ireturn, 1) := by decide +kernel
theorem dX7_numberOf_72 : decode cX7_numberOf 72 = .ok (.aload_n 0, 1) := by decide +kernel
theorem dX7_numberOf_73 : decode cX7_numberOf 73 = .ok (.getfield 10, 3) := by decide +kernel
theorem dX7_numberOf_76 : decode cX7_numberOf 76 = .ok (.getfield 108, 3) := by decide +kernel
theorem dX7_numberOf_79 : decode cX7_numberOf 79 = .ok (.ireturn, 1) := by decide +kernel
theorem dX7_numberOf_80 : decode cX7_numberOf 80 = .ok (.aload_n 0, 1) := by decide +kernel
theorem dX7_numberOf_81 : decode cX7_numberOf 81 = .ok (.getfield 10, 3) := by decide +kernel
theorem dX7_numberOf_84 : decode cX7_numberOf 84 = .ok (.getfield 91, 3) := by decide +kernel
theorem dX7_numberOf_87 : decode cX7_numberOf 87 = .ok (.invokevirtual 95, 3) := by decide +kernel
theorem dX7_numberOf_90 : decode cX7_numberOf 90 = .ok (.ireturn, 1) := by decide +kernel
theorem dX7_numberOf_91 : decode cX7_numberOf 91 = .ok (.aload_n 0, 1) := by decide +kernel
theorem dX7_numberOf_92 : decode cX7_numberOf 92 = .ok (.getfield 19, 3) := by decide +kernel
theorem dX7_numberOf_95 : decode cX7_numberOf 95 = .ok (.getfield 232, 3) := by decide +kernel
theorem dX7_numberOf_98 : decode cX7_numberOf 98 = .ok (.invokestatic 281, 3) := by decide +kernel
theorem dX7_numberOf_101 : decode cX7_numberOf 101 = .ok (.ireturn, 1) := by decide +kernel
theorem dX7_numberOf_102 : decode cX7_numberOf 102 = .ok (.aload_n 0, 1) := by decide +kernel
theorem dX7_numberOf_103 : decode cX7_numberOf 103 = .ok (.getfield 19, 3) := by decide +kernel
theorem dX7_numberOf_106 : decode cX7_numberOf 106 = .ok (.invokevirtual 286, 3) := by decide +kernel
theorem dX7_numberOf_109 : decode cX7_numberOf 109 = .ok (.ireturn, 1) := by decide +kernel
theorem dX7_numberOf_110 : decode cX7_numberOf 110 = .ok (.aload_n 0, 1) := by decide +kernel
theorem dX7_numberOf_111 : decode cX7_numberOf 111 = .ok (.getfield 19, 3) := by decide +kernel
theorem dX7_numberOf_114 : decode cX7_numberOf 114 = .ok (.getfield 125, 3) := by decide +kernel
theorem dX7_numberOf_117 : decode cX7_numberOf 117 = .ok (.invokestatic 281, 3) := by decide +kernel
theorem dX7_numberOf_120 : decode cX7_numberOf 120 = .ok (.ireturn, 1) := by decide +kernel
theorem dX7_numberOf_121 : decode cX7_numberOf 121 = .ok (.aload_n 0, 1) := by decide +kernel
theorem dX7_numberOf_122 : decode cX7_numberOf 122 = .ok (.getfield 10, 3) := by decide +kernel
theorem dX7_numberOf_125 : decode cX7_numberOf 125 = .ok (.invokevirtual 287, 3) := by decide +kernel
theorem dX7_numberOf_128 : decode cX7_numberOf 128 = .ok (.ireturn, 1) := by decide +kernel
theorem dX7_mix_0 : decode cX7_mix 0 = .ok (.ldc2_w 290, 3) := by decide +kernel
theorem dX7_mix_3 : decode cX7_mix 3 = .ok (.lload_n 0, 1) := by decide +kernel
theorem dX7_mix_4 : decode cX7_mix 4 = .ok (.lmul, 1) := by decide +kernel
theorem dX7_mix_5 : decode cX7_mix 5 = .ok (.iload_n 2, 1) := by decide +kernel
theorem dX7_mix_6 : decode cX7_mix 6 = .ok (.i2l, 1) := by decide +kernel
theorem dX7_mix_7 : decode cX7_mix 7 = .ok (.ladd, 1) := by decide +kernel
theorem dX7_mix_8 : decode cX7_mix 8 = .ok (.lreturn, 1) := by decide +kernel
set_option maxRecDepth 20000 in
theorem ggX7_mixPin_X0_wireAt : GoodIn wsX7_mixPin wsX0_wireAt := goodIn_r _ [9, 10, 162, 163, 164, 165, 166, 167, 168] (by decide +kernel) (by decide +kernel)
set_option maxRecDepth 20000 in
theorem gX7_mixPin_X0_wireAt : GoodIn wsX7_mixPin (wsV RX7 72 RX0 yX0_wireAt wsX0_wireAt) := goodIn_app (goodIn_of _ (by decide +kernel)) ggX7_mixPin_X0_wireAt
set_option maxRecDepth 20000 in
theorem ggX7_mixPin_X7_mix : GoodIn wsX7_mixPin wsX7_mix := goodIn_r _ [14, 15] (by decide +kernel) (by decide +kernel)
set_option maxRecDepth 20000 in
theorem gX7_mixPin_X7_mix : GoodIn wsX7_mixPin (va_wsS RX7 205 yX7_mix wsX7_mix) := goodIn_app (goodIn_of _ (by decide +kernel)) ggX7_mixPin_X7_mix
set_option maxRecDepth 20000 in
theorem ggX7_mixPin_X5_joinedPins : GoodIn wsX7_mixPin wsX5_joinedPins := goodIn_r _ [20, 21, 22, 23, 19, 24, 25, 26, 27, 28, 29, 30, 31, 32, 33, 169, 170, 171, 172, 173, 174, 175, 176] (by decide +kernel) (by decide +kernel)
set_option maxRecDepth 20000 in
theorem gX7_mixPin_X5_joinedPins : GoodIn wsX7_mixPin (wsV RX7 157 RX5 yX5_joinedPins wsX5_joinedPins) := goodIn_app (goodIn_of _ (by decide +kernel)) ggX7_mixPin_X5_joinedPins
set_option maxRecDepth 20000 in
theorem ggX7_mixPin_X5_statusOf : GoodIn wsX7_mixPin wsX5_statusOf := goodIn_r _ [37, 30, 31, 32, 19, 33, 25, 26, 27, 28, 29, 21, 22, 23, 24, 38, 39, 40, 41, 42, 43, 44, 169, 170, 171, 172, 173, 174, 175, 176] (by decide +kernel) (by decide +kernel)
set_option maxRecDepth 20000 in
theorem gX7_mixPin_X5_statusOf : GoodIn wsX7_mixPin (wsV RX7 161 RX5 yX5_statusOf wsX5_statusOf) := goodIn_app (goodIn_of _ (by decide +kernel)) ggX7_mixPin_X5_statusOf
set_option maxRecDepth 20000 in
theorem ggX7_mixPin_X0_echoAt : GoodIn wsX7_mixPin wsX0_echoAt := goodIn_r _ [48, 49, 50, 51, 52, 53, 54, 55, 6, 7, 8, 9, 10, 56, 57, 58, 59, 60, 61, 62, 63, 64, 65, 66, 67, 68, 69, 70, 71, 72, 73, 74, 75, 76, 77, 78, 79, 80, 81, 82, 83, 84, 85, 86, 87, 88, 89, 90, 91, 92, 93, 94, 95, 96, 97, 98, 99, 100, 101, 102, 103, 104, 105, 106, 107, 108, 109, 110, 111, 112, 162, 163, 164, 165, 166, 167, 168, 177, 178, 179, 180, 181, 182, 183, 184] (by decide +kernel) (by decide +kernel)
set_option maxRecDepth 20000 in
theorem gX7_mixPin_X0_echoAt : GoodIn wsX7_mixPin (wsV RX7 165 RX0 yX0_echoAt wsX0_echoAt) := goodIn_app (goodIn_of _ (by decide +kernel)) ggX7_mixPin_X0_echoAt
set_option maxRecDepth 20000 in
theorem ggX7_mixPin_X4_numberAbout : GoodIn wsX7_mixPin wsX4_numberAbout := goodIn_r _ [117, 118, 119, 120, 121, 116, 122, 123, 124, 125, 126, 127, 128, 129, 130, 131, 132, 133, 134, 135, 136, 137, 138, 139, 140, 141, 142, 143, 144, 145, 146, 147, 148, 149, 150, 185, 186] (by decide +kernel) (by decide +kernel)
set_option maxRecDepth 20000 in
theorem gX7_mixPin_X4_numberAbout : GoodIn wsX7_mixPin (wsV RX7 174 RX4 yX4_numberAbout wsX4_numberAbout) := goodIn_app (goodIn_of _ (by decide +kernel)) ggX7_mixPin_X4_numberAbout
set_option maxRecDepth 20000 in
theorem ggX7_mixPin_X1_farPinFor : GoodIn wsX7_mixPin wsX1_farPinFor := goodIn_r _ [155, 156, 187, 188, 189, 190, 191] (by decide +kernel) (by decide +kernel)
set_option maxRecDepth 20000 in
theorem gX7_mixPin_X1_farPinFor : GoodIn wsX7_mixPin (wsV RX7 187 RX1 yX1_farPinFor wsX1_farPinFor) := goodIn_app (goodIn_of _ (by decide +kernel)) ggX7_mixPin_X1_farPinFor
theorem dX7_mixPin_0 : decode cX7_mixPin 0 = .ok (.lload_n 1, 1) := by decide +kernel
theorem dX7_mixPin_1 : decode cX7_mixPin 1 = .ok (.aload_n 0, 1) := by decide +kernel
theorem dX7_mixPin_2 : decode cX7_mixPin 2 = .ok (.getfield 10, 3) := by decide +kernel
theorem dX7_mixPin_5 : decode cX7_mixPin 5 = .ok (.iconst 0, 1) := by decide +kernel
theorem dX7_mixPin_6 : decode cX7_mixPin 6 = .ok (.iload_n 3, 1) := by decide +kernel
theorem dX7_mixPin_7 : decode cX7_mixPin 7 = .ok (.invokevirtual 72, 3) := by decide +kernel
theorem dX7_mixPin_10 : decode cX7_mixPin 10 = .ok (.invokestatic 205, 3) := by decide +kernel
theorem dX7_mixPin_13 : decode cX7_mixPin 13 = .ok (.lstore 4, 2) := by decide +kernel
theorem dX7_mixPin_15 : decode cX7_mixPin 15 = .ok (.lload 4, 2) := by decide +kernel
theorem dX7_mixPin_17 : decode cX7_mixPin 17 = .ok (.aload_n 0, 1) := by decide +kernel
theorem dX7_mixPin_18 : decode cX7_mixPin 18 = .ok (.getfield 10, 3) := by decide +kernel
theorem dX7_mixPin_21 : decode cX7_mixPin 21 = .ok (.iconst 1, 1) := by decide +kernel
theorem dX7_mixPin_22 : decode cX7_mixPin 22 = .ok (.iload_n 3, 1) := by decide +kernel
theorem dX7_mixPin_23 : decode cX7_mixPin 23 = .ok (.invokevirtual 72, 3) := by decide +kernel
theorem dX7_mixPin_26 : decode cX7_mixPin 26 = .ok (.invokestatic 205, 3) := by decide +kernel
theorem dX7_mixPin_29 : decode cX7_mixPin 29 = .ok (.lstore 4, 2) := by decide +kernel
theorem dX7_mixPin_31 : decode cX7_mixPin 31 = .ok (.lload 4, 2) := by decide +kernel
theorem dX7_mixPin_33 : decode cX7_mixPin 33 = .ok (.aload_n 0, 1) := by decide +kernel
theorem dX7_mixPin_34 : decode cX7_mixPin 34 = .ok (.getfield 19, 3) := by decide +kernel
theorem dX7_mixPin_37 : decode cX7_mixPin 37 = .ok (.iconst 0, 1) := by decide +kernel
theorem dX7_mixPin_38 : decode cX7_mixPin 38 = .ok (.iload_n 3, 1) := by decide +kernel
theorem dX7_mixPin_39 : decode cX7_mixPin 39 = .ok (.iconst 0, 1) := by decide +kernel
theorem dX7_mixPin_40 : decode cX7_mixPin 40 = .ok (.invokevirtual 157, 3) := by decide +kernel
theorem dX7_mixPin_43 : decode cX7_mixPin 43 = .ok (.invokestatic 205, 3) := by decide +kernel
theorem dX7_mixPin_46 : decode cX7_mixPin 46 = .ok (.lstore 4, 2) := by decide +kernel
theorem dX7_mixPin_48 : decode cX7_mixPin 48 = .ok (.lload 4, 2) := by decide +kernel
theorem dX7_mixPin_50 : decode cX7_mixPin 50 = .ok (.aload_n 0, 1) := by decide +kernel
theorem dX7_mixPin_51 : decode cX7_mixPin 51 = .ok (.getfield 19, 3) := by decide +kernel
theorem dX7_mixPin_54 : decode cX7_mixPin 54 = .ok (.iconst 0, 1) := by decide +kernel
theorem dX7_mixPin_55 : decode cX7_mixPin 55 = .ok (.iload_n 3, 1) := by decide +kernel
theorem dX7_mixPin_56 : decode cX7_mixPin 56 = .ok (.iconst 1, 1) := by decide +kernel
theorem dX7_mixPin_57 : decode cX7_mixPin 57 = .ok (.invokevirtual 157, 3) := by decide +kernel
theorem dX7_mixPin_60 : decode cX7_mixPin 60 = .ok (.invokestatic 205, 3) := by decide +kernel
theorem dX7_mixPin_63 : decode cX7_mixPin 63 = .ok (.lstore 4, 2) := by decide +kernel
theorem dX7_mixPin_65 : decode cX7_mixPin 65 = .ok (.lload 4, 2) := by decide +kernel
theorem dX7_mixPin_67 : decode cX7_mixPin 67 = .ok (.aload_n 0, 1) := by decide +kernel
theorem dX7_mixPin_68 : decode cX7_mixPin 68 = .ok (.getfield 19, 3) := by decide +kernel
theorem dX7_mixPin_71 : decode cX7_mixPin 71 = .ok (.iconst 1, 1) := by decide +kernel
theorem dX7_mixPin_72 : decode cX7_mixPin 72 = .ok (.iload_n 3, 1) := by decide +kernel
theorem dX7_mixPin_73 : decode cX7_mixPin 73 = .ok (.iconst 1, 1) := by decide +kernel
theorem dX7_mixPin_74 : decode cX7_mixPin 74 = .ok (.invokevirtual 157, 3) := by decide +kernel
theorem dX7_mixPin_77 : decode cX7_mixPin 77 = .ok (.invokestatic 205, 3) := by decide +kernel
theorem dX7_mixPin_80 : decode cX7_mixPin 80 = .ok (.lstore 4, 2) := by decide +kernel
theorem dX7_mixPin_82 : decode cX7_mixPin 82 = .ok (.lload 4, 2) := by decide +kernel
theorem dX7_mixPin_84 : decode cX7_mixPin 84 = .ok (.aload_n 0, 1) := by decide +kernel
theorem dX7_mixPin_85 : decode cX7_mixPin 85 = .ok (.getfield 19, 3) := by decide +kernel
theorem dX7_mixPin_88 : decode cX7_mixPin 88 = .ok (.iload_n 3, 1) := by decide +kernel
theorem dX7_mixPin_89 : decode cX7_mixPin 89 = .ok (.invokevirtual 161, 3) := by decide +kernel
theorem dX7_mixPin_92 : decode cX7_mixPin 92 = .ok (.invokestatic 205, 3) := by decide +kernel
theorem dX7_mixPin_95 : decode cX7_mixPin 95 = .ok (.lstore 4, 2) := by decide +kernel
theorem dX7_mixPin_97 : decode cX7_mixPin 97 = .ok (.iconst 0, 1) := by decide +kernel
theorem dX7_mixPin_98 : decode cX7_mixPin 98 = .ok (.istore 6, 2) := by decide +kernel
theorem dX7_mixPin_100 : decode cX7_mixPin 100 = .ok (.iload 6, 2) := by decide +kernel
theorem dX7_mixPin_102 : decode cX7_mixPin 102 = .ok (.iconst 3, 1) := by decide +kernel
theorem dX7_mixPin_103 : decode cX7_mixPin 103 = .ok (.if_icmp .gt 26, 3) := by decide +kernel
theorem dX7_mixPin_106 : decode cX7_mixPin 106 = .ok (.lload 4, 2) := by decide +kernel
theorem dX7_mixPin_108 : decode cX7_mixPin 108 = .ok (.aload_n 0, 1) := by decide +kernel
theorem dX7_mixPin_109 : decode cX7_mixPin 109 = .ok (.getfield 10, 3) := by decide +kernel
theorem dX7_mixPin_112 : decode cX7_mixPin 112 = .ok (.iload_n 3, 1) := by decide +kernel
theorem dX7_mixPin_113 : decode cX7_mixPin 113 = .ok (.iload 6, 2) := by decide +kernel
theorem dX7_mixPin_115 : decode cX7_mixPin 115 = .ok (.invokevirtual 165, 3) := by decide +kernel
theorem dX7_mixPin_118 : decode cX7_mixPin 118 = .ok (.invokestatic 205, 3) := by decide +kernel
theorem dX7_mixPin_121 : decode cX7_mixPin 121 = .ok (.lstore 4, 2) := by decide +kernel
theorem dX7_mixPin_123 : decode cX7_mixPin 123 = .ok (.iinc 6 1, 3) := by decide +kernel
theorem dX7_mixPin_126 : decode cX7_mixPin 126 = .ok (.goto (-26), 3) := by decide +kernel
theorem dX7_mixPin_129 : decode cX7_mixPin 129 = .ok (.iconst 0, 1) := by decide +kernel
theorem dX7_mixPin_130 : decode cX7_mixPin 130 = .ok (.istore 6, 2) := by decide +kernel
theorem dX7_mixPin_132 : decode cX7_mixPin 132 = .ok (.iload 6, 2) := by decide +kernel
theorem dX7_mixPin_134 : decode cX7_mixPin 134 = .ok (.iconst 4, 1) := by decide +kernel
theorem dX7_mixPin_135 : decode cX7_mixPin 135 = .ok (.if_icmp .gt 26, 3) := by decide +kernel
theorem dX7_mixPin_138 : decode cX7_mixPin 138 = .ok (.lload 4, 2) := by decide +kernel
theorem dX7_mixPin_140 : decode cX7_mixPin 140 = .ok (.aload_n 0, 1) := by decide +kernel
theorem dX7_mixPin_141 : decode cX7_mixPin 141 = .ok (.getfield 33, 3) := by decide +kernel
theorem dX7_mixPin_144 : decode cX7_mixPin 144 = .ok (.iload_n 3, 1) := by decide +kernel
theorem dX7_mixPin_145 : decode cX7_mixPin 145 = .ok (.iload 6, 2) := by decide +kernel
theorem dX7_mixPin_147 : decode cX7_mixPin 147 = .ok (.invokevirtual 174, 3) := by decide +kernel
theorem dX7_mixPin_150 : decode cX7_mixPin 150 = .ok (.invokestatic 205, 3) := by decide +kernel
theorem dX7_mixPin_153 : decode cX7_mixPin 153 = .ok (.lstore 4, 2) := by decide +kernel
theorem dX7_mixPin_155 : decode cX7_mixPin 155 = .ok (.iinc 6 1, 3) := by decide +kernel
theorem dX7_mixPin_158 : decode cX7_mixPin 158 = .ok (.goto (-26), 3) := by decide +kernel
theorem dX7_mixPin_161 : decode cX7_mixPin 161 = .ok (.lload 4, 2) := by decide +kernel
theorem dX7_mixPin_163 : decode cX7_mixPin 163 = .ok (.aload_n 0, 1) := by decide +kernel
theorem dX7_mixPin_164 : decode cX7_mixPin 164 = .ok (.getfield 26, 3) := by decide +kernel
theorem dX7_mixPin_167 : decode cX7_mixPin 167 = .ok (.iload_n 3, 1) := by decide +kernel
theorem dX7_mixPin_168 : decode cX7_mixPin 168 = .ok (.invokevirtual 187, 3) := by decide +kernel
theorem dX7_mixPin_171 : decode cX7_mixPin 171 = .ok (.invokestatic 205, 3) := by decide +kernel
theorem dX7_mixPin_174 : decode cX7_mixPin 174 = .ok (.lreturn, 1) := by decide +kernel
set_option maxRecDepth 20000 in
theorem ggX8_init_X8_fresh : GoodIn wsX8_init wsX8_fresh := goodIn_r _ [19, 20, 21, 22, 23, 24, 25, 5, 26, 27, 28, 29, 30, 31, 32, 33, 34, 35, 36, 37, 38, 39, 40, 41, 42, 43, 44, 45, 46, 47, 48, 49, 50, 51, 52, 53, 54] (by decide +kernel) (by decide +kernel)
set_option maxRecDepth 20000 in
theorem gX8_init_X8_fresh : GoodIn wsX8_init (wsV RX8 40 RX8 yX8_fresh wsX8_fresh) := goodIn_app (goodIn_of _ (by decide +kernel)) ggX8_init_X8_fresh
theorem dX8_init_0 : decode cX8_init 0 = .ok (.aload_n 0, 1) := by decide +kernel
theorem dX8_init_1 : decode cX8_init 1 = .ok (.invokespecial 1, 3) := by decide +kernel
theorem dX8_init_4 : decode cX8_init 4 = .ok (.aload_n 0, 1) := by decide +kernel
theorem dX8_init_5 : decode cX8_init 5 = .ok (.bipush 16, 2) := by decide +kernel
theorem dX8_init_7 : decode cX8_init 7 = .ok (.newarray .int, 2) := by decide +kernel
theorem dX8_init_9 : decode cX8_init 9 = .ok (.putfield 7, 3) := by decide +kernel
theorem dX8_init_12 : decode cX8_init 12 = .ok (.aload_n 0, 1) := by decide +kernel
theorem dX8_init_13 : decode cX8_init 13 = .ok (.bipush 60, 2) := by decide +kernel
theorem dX8_init_15 : decode cX8_init 15 = .ok (.newarray .int, 2) := by decide +kernel
theorem dX8_init_17 : decode cX8_init 17 = .ok (.putfield 13, 3) := by decide +kernel
theorem dX8_init_20 : decode cX8_init 20 = .ok (.aload_n 0, 1) := by decide +kernel
theorem dX8_init_21 : decode cX8_init 21 = .ok (.bipush 64, 2) := by decide +kernel
theorem dX8_init_23 : decode cX8_init 23 = .ok (.newarray .int, 2) := by decide +kernel
theorem dX8_init_25 : decode cX8_init 25 = .ok (.putfield 16, 3) := by decide +kernel
theorem dX8_init_28 : decode cX8_init 28 = .ok (.aload_n 0, 1) := by decide +kernel
theorem dX8_init_29 : decode cX8_init 29 = .ok (.bipush 50, 2) := by decide +kernel
theorem dX8_init_31 : decode cX8_init 31 = .ok (.newarray .int, 2) := by decide +kernel
theorem dX8_init_33 : decode cX8_init 33 = .ok (.putfield 19, 3) := by decide +kernel
theorem dX8_init_36 : decode cX8_init 36 = .ok (.aload_n 0, 1) := by decide +kernel
theorem dX8_init_37 : decode cX8_init 37 = .ok (.bipush 88, 2) := by decide +kernel
theorem dX8_init_39 : decode cX8_init 39 = .ok (.newarray .int, 2) := by decide +kernel
theorem dX8_init_41 : decode cX8_init 41 = .ok (.putfield 22, 3) := by decide +kernel
theorem dX8_init_44 : decode cX8_init 44 = .ok (.aload_n 0, 1) := by decide +kernel
theorem dX8_init_45 : decode cX8_init 45 = .ok (.bipush 16, 2) := by decide +kernel
theorem dX8_init_47 : decode cX8_init 47 = .ok (.newarray .int, 2) := by decide +kernel
theorem dX8_init_49 : decode cX8_init 49 = .ok (.putfield 25, 3) := by decide +kernel
theorem dX8_init_52 : decode cX8_init 52 = .ok (.aload_n 0, 1) := by decide +kernel
theorem dX8_init_53 : decode cX8_init 53 = .ok (.sipush 150, 3) := by decide +kernel
theorem dX8_init_56 : decode cX8_init 56 = .ok (.newarray .int, 2) := by decide +kernel
theorem dX8_init_58 : decode cX8_init 58 = .ok (.putfield 28, 3) := by decide +kernel
theorem dX8_init_61 : decode cX8_init 61 = .ok (.aload_n 0, 1) := by decide +kernel
theorem dX8_init_62 : decode cX8_init 62 = .ok (.bipush 8, 2) := by decide +kernel
theorem dX8_init_64 : decode cX8_init 64 = .ok (.newarray .int, 2) := by decide +kernel
theorem dX8_init_66 : decode cX8_init 66 = .ok (.putfield 31, 3) := by decide +kernel
theorem dX8_init_69 : decode cX8_init 69 = .ok (.aload_n 0, 1) := by decide +kernel
theorem dX8_init_70 : decode cX8_init 70 = .ok (.bipush 8, 2) := by decide +kernel
theorem dX8_init_72 : decode cX8_init 72 = .ok (.newarray .int, 2) := by decide +kernel
theorem dX8_init_74 : decode cX8_init 74 = .ok (.putfield 34, 3) := by decide +kernel
theorem dX8_init_77 : decode cX8_init 77 = .ok (.aload_n 0, 1) := by decide +kernel
theorem dX8_init_78 : decode cX8_init 78 = .ok (.bipush 9, 2) := by decide +kernel
theorem dX8_init_80 : decode cX8_init 80 = .ok (.newarray .int, 2) := by decide +kernel
theorem dX8_init_82 : decode cX8_init 82 = .ok (.putfield 37, 3) := by decide +kernel
theorem dX8_init_85 : decode cX8_init 85 = .ok (.aload_n 0, 1) := by decide +kernel
theorem dX8_init_86 : decode cX8_init 86 = .ok (.bipush 100, 2) := by decide +kernel
theorem dX8_init_88 : decode cX8_init 88 = .ok (.bipush 66, 2) := by decide +kernel
theorem dX8_init_90 : decode cX8_init 90 = .ok (.invokevirtual 40, 3) := by decide +kernel
theorem dX8_init_93 : decode cX8_init 93 = .ok (.return_, 1) := by decide +kernel
theorem dX8_thrown_0 : decode cX8_thrown 0 = .ok (.aload_n 0, 1) := by decide +kernel
theorem dX8_thrown_1 : decode cX8_thrown 1 = .ok (.getfield 44, 3) := by decide +kernel
theorem dX8_thrown_4 : decode cX8_thrown 4 = .ok (.ireturn, 1) := by decide +kernel
theorem dX8_within_0 : decode cX8_within 0 = .ok (.iload_n 0, 1) := by decide +kernel
theorem dX8_within_1 : decode cX8_within 1 = .ok (.iload_n 1, 1) := by decide +kernel
theorem dX8_within_2 : decode cX8_within 2 = .ok (.if_icmp .lt 12, 3) := by decide +kernel
theorem dX8_within_5 : decode cX8_within 5 = .ok (.iload_n 0, 1) := by decide +kernel
theorem dX8_within_6 : decode cX8_within 6 = .ok (.iload_n 2, 1) := by decide +kernel
theorem dX8_within_7 : decode cX8_within 7 = .ok (.if_icmp .gt 7, 3) := by decide +kernel
theorem dX8_within_10 : decode cX8_within 10 = .ok (.iconst 1, 1) := by decide +kernel
theorem dX8_within_11 : decode cX8_within 11 = .ok (.goto 4, 3) := by decide +kernel
theorem dX8_within_14 : decode cX8_within 14 = .ok (.iconst 0, 1) := by decide +kernel
theorem dX8_within_15 : decode cX8_within 15 = .ok (.ireturn, 1) := by decide +kernel
set_option maxRecDepth 20000 in
theorem ggX8_isWire_X8_within : GoodIn wsX8_isWire wsX8_within := goodIn_r _ [4] (by decide +kernel) (by decide +kernel)
set_option maxRecDepth 20000 in
theorem gX8_isWire_X8_within : GoodIn wsX8_isWire (va_wsS RX8 48 yX8_within wsX8_within) := goodIn_app (goodIn_of _ (by decide +kernel)) ggX8_isWire_X8_within
theorem dX8_isWire_0 : decode cX8_isWire 0 = .ok (.iload_n 0, 1) := by decide +kernel
theorem dX8_isWire_1 : decode cX8_isWire 1 = .ok (.iconst 0, 1) := by decide +kernel
theorem dX8_isWire_2 : decode cX8_isWire 2 = .ok (.bipush 7, 2) := by decide +kernel
theorem dX8_isWire_4 : decode cX8_isWire 4 = .ok (.invokestatic 48, 3) := by decide +kernel
theorem dX8_isWire_7 : decode cX8_isWire 7 = .ok (.ireturn, 1) := by decide +kernel
set_option maxRecDepth 20000 in
theorem ggX8_isEnd_X8_within : GoodIn wsX8_isEnd wsX8_within := goodIn_r _ [4] (by decide +kernel) (by decide +kernel)
set_option maxRecDepth 20000 in
theorem gX8_isEnd_X8_within : GoodIn wsX8_isEnd (va_wsS RX8 48 yX8_within wsX8_within) := goodIn_app (goodIn_of _ (by decide +kernel)) ggX8_isEnd_X8_within
theorem dX8_isEnd_0 : decode cX8_isEnd 0 = .ok (.iload_n 0, 1) := by decide +kernel
theorem dX8_isEnd_1 : decode cX8_isEnd 1 = .ok (.iconst 0, 1) := by decide +kernel
theorem dX8_isEnd_2 : decode cX8_isEnd 2 = .ok (.iconst 1, 1) := by decide +kernel
theorem dX8_isEnd_3 : decode cX8_isEnd 3 = .ok (.invokestatic 48, 3) := by decide +kernel
theorem dX8_isEnd_6 : decode cX8_isEnd 6 = .ok (.ireturn, 1) := by decide +kernel
theorem dX8_fresh_0 : decode cX8_fresh 0 = .ok (.aload_n 0, 1) := by decide +kernel
theorem dX8_fresh_1 : decode cX8_fresh 1 = .ok (.iload_n 1, 1) := by decide +kernel
theorem dX8_fresh_2 : decode cX8_fresh 2 = .ok (.putfield 52, 3) := by decide +kernel
theorem dX8_fresh_5 : decode cX8_fresh 5 = .ok (.aload_n 0, 1) := by decide +kernel
theorem dX8_fresh_6 : decode cX8_fresh 6 = .ok (.iload_n 2, 1) := by decide +kernel
theorem dX8_fresh_7 : decode cX8_fresh 7 = .ok (.putfield 55, 3) := by decide +kernel
theorem dX8_fresh_10 : decode cX8_fresh 10 = .ok (.aload_n 0, 1) := by decide +kernel
theorem dX8_fresh_11 : decode cX8_fresh 11 = .ok (.iconst 0, 1) := by decide +kernel
theorem dX8_fresh_12 : decode cX8_fresh 12 = .ok (.putfield 58, 3) := by decide +kernel
theorem dX8_fresh_15 : decode cX8_fresh 15 = .ok (.aload_n 0, 1) := by decide +kernel
theorem dX8_fresh_16 : decode cX8_fresh 16 = .ok (.iconst 0, 1) := by decide +kernel
theorem dX8_fresh_17 : decode cX8_fresh 17 = .ok (.putfield 61, 3) := by decide +kernel
theorem dX8_fresh_20 : decode cX8_fresh 20 = .ok (.aload_n 0, 1) := by decide +kernel
theorem dX8_fresh_21 : decode cX8_fresh 21 = .ok (.iconst 0, 1) := by decide +kernel
theorem dX8_fresh_22 : decode cX8_fresh 22 = .ok (.putfield 64, 3) := by decide +kernel
theorem dX8_fresh_25 : decode cX8_fresh 25 = .ok (.aload_n 0, 1) := by decide +kernel
theorem dX8_fresh_26 : decode cX8_fresh 26 = .ok (.iconst 0, 1) := by decide +kernel
theorem dX8_fresh_27 : decode cX8_fresh 27 = .ok (.putfield 67, 3) := by decide +kernel
theorem dX8_fresh_30 : decode cX8_fresh 30 = .ok (.iconst 0, 1) := by decide +kernel
theorem dX8_fresh_31 : decode cX8_fresh 31 = .ok (.istore_n 3, 1) := by decide +kernel
theorem dX8_fresh_32 : decode cX8_fresh 32 = .ok (.iload_n 3, 1) := by decide +kernel
theorem dX8_fresh_33 : decode cX8_fresh 33 = .ok (.bipush 16, 2) := by decide +kernel
theorem dX8_fresh_35 : decode cX8_fresh 35 = .ok (.if_icmp .ge 19, 3) := by decide +kernel
theorem dX8_fresh_38 : decode cX8_fresh 38 = .ok (.aload_n 0, 1) := by decide +kernel
theorem dX8_fresh_39 : decode cX8_fresh 39 = .ok (.getfield 7, 3) := by decide +kernel
theorem dX8_fresh_42 : decode cX8_fresh 42 = .ok (.iload_n 3, 1) := by decide +kernel
theorem dX8_fresh_43 : decode cX8_fresh 43 = .ok (.iload_n 3, 1) := by decide +kernel
theorem dX8_fresh_44 : decode cX8_fresh 44 = .ok (.bipush 8, 2) := by decide +kernel
theorem dX8_fresh_46 : decode cX8_fresh 46 = .ok (.irem, 1) := by decide +kernel
theorem dX8_fresh_47 : decode cX8_fresh 47 = .ok (.iastore, 1) := by decide +kernel
theorem dX8_fresh_48 : decode cX8_fresh 48 = .ok (.iinc 3 1, 3) := by decide +kernel
theorem dX8_fresh_51 : decode cX8_fresh 51 = .ok (.goto (-19), 3) := by decide +kernel
theorem dX8_fresh_54 : decode cX8_fresh 54 = .ok (.return_, 1) := by decide +kernel
theorem dX8_of_0 : decode cX8_of 0 = .ok (.aload_n 0, 1) := by decide +kernel
theorem dX8_of_1 : decode cX8_of 1 = .ok (.getfield 13, 3) := by decide +kernel
theorem dX8_of_4 : decode cX8_of 4 = .ok (.bipush 6, 2) := by decide +kernel
theorem dX8_of_6 : decode cX8_of 6 = .ok (.iload_n 1, 1) := by decide +kernel
theorem dX8_of_7 : decode cX8_of 7 = .ok (.imul, 1) := by decide +kernel
theorem dX8_of_8 : decode cX8_of 8 = .ok (.iload_n 2, 1) := by decide +kernel
theorem dX8_of_9 : decode cX8_of 9 = .ok (.iadd, 1) := by decide +kernel
theorem dX8_of_10 : decode cX8_of 10 = .ok (.iaload, 1) := by decide +kernel
theorem dX8_of_11 : decode cX8_of 11 = .ok (.ireturn, 1) := by decide +kernel
set_option maxRecDepth 20000 in
theorem ggX8_isPresent_X8_of : GoodIn wsX8_isPresent wsX8_of := goodIn_r _ [5, 6, 7, 8, 9, 10, 11, 12, 13, 14, 15, 16, 17, 18, 19, 20, 21, 22, 23, 24, 25, 26, 27, 28, 29, 30, 31, 32, 33, 34, 35] (by decide +kernel) (by decide +kernel)
set_option maxRecDepth 20000 in
theorem gX8_isPresent_X8_of : GoodIn wsX8_isPresent (wsV RX8 70 RX8 yX8_of wsX8_of) := goodIn_app (goodIn_of _ (by decide +kernel)) ggX8_isPresent_X8_of
theorem dX8_isPresent_0 : decode cX8_isPresent 0 = .ok (.iload_n 2, 1) := by decide +kernel
theorem dX8_isPresent_1 : decode cX8_isPresent 1 = .ok (.aload_n 0, 1) := by decide +kernel
theorem dX8_isPresent_2 : decode cX8_isPresent 2 = .ok (.iload_n 1, 1) := by decide +kernel
theorem dX8_isPresent_3 : decode cX8_isPresent 3 = .ok (.iconst 4, 1) := by decide +kernel
theorem dX8_isPresent_4 : decode cX8_isPresent 4 = .ok (.invokevirtual 70, 3) := by decide +kernel
theorem dX8_isPresent_7 : decode cX8_isPresent 7 = .ok (.irem, 1) := by decide +kernel
theorem dX8_isPresent_8 : decode cX8_isPresent 8 = .ok (.aload_n 0, 1) := by decide +kernel
theorem dX8_isPresent_9 : decode cX8_isPresent 9 = .ok (.iload_n 1, 1) := by decide +kernel
theorem dX8_isPresent_10 : decode cX8_isPresent 10 = .ok (.iconst 5, 1) := by decide +kernel
theorem dX8_isPresent_11 : decode cX8_isPresent 11 = .ok (.invokevirtual 70, 3) := by decide +kernel
theorem dX8_isPresent_14 : decode cX8_isPresent 14 = .ok (.if_icmp .ge 7, 3) := by decide +kernel
theorem dX8_isPresent_17 : decode cX8_isPresent 17 = .ok (.iconst 1, 1) := by decide +kernel
theorem dX8_isPresent_18 : decode cX8_isPresent 18 = .ok (.goto 4, 3) := by decide +kernel
theorem dX8_isPresent_21 : decode cX8_isPresent 21 = .ok (.iconst 0, 1) := by decide +kernel
theorem dX8_isPresent_22 : decode cX8_isPresent 22 = .ok (.ireturn, 1) := by decide +kernel
theorem dX8_root_0 : decode cX8_root 0 = .ok (.iload_n 1, 1) := by decide +kernel
theorem dX8_root_1 : decode cX8_root 1 = .ok (.istore_n 2, 1) := by decide +kernel
theorem dX8_root_2 : decode cX8_root 2 = .ok (.aload_n 0, 1) := by decide +kernel
theorem dX8_root_3 : decode cX8_root 3 = .ok (.getfield 22, 3) := by decide +kernel
theorem dX8_root_6 : decode cX8_root 6 = .ok (.iload_n 2, 1) := by decide +kernel
theorem dX8_root_7 : decode cX8_root 7 = .ok (.iaload, 1) := by decide +kernel
theorem dX8_root_8 : decode cX8_root 8 = .ok (.iload_n 2, 1) := by decide +kernel
theorem dX8_root_9 : decode cX8_root 9 = .ok (.if_icmp .eq 13, 3) := by decide +kernel
theorem dX8_root_12 : decode cX8_root 12 = .ok (.aload_n 0, 1) := by decide +kernel
theorem dX8_root_13 : decode cX8_root 13 = .ok (.getfield 22, 3) := by decide +kernel
theorem dX8_root_16 : decode cX8_root 16 = .ok (.iload_n 2, 1) := by decide +kernel
theorem dX8_root_17 : decode cX8_root 17 = .ok (.iaload, 1) := by decide +kernel
theorem dX8_root_18 : decode cX8_root 18 = .ok (.istore_n 2, 1) := by decide +kernel
theorem dX8_root_19 : decode cX8_root 19 = .ok (.goto (-17), 3) := by decide +kernel
theorem dX8_root_22 : decode cX8_root 22 = .ok (.iload_n 2, 1) := by decide +kernel
theorem dX8_root_23 : decode cX8_root 23 = .ok (.ireturn, 1) := by decide +kernel
set_option maxRecDepth 20000 in
theorem ggX8_piece_X8_of : GoodIn wsX8_piece wsX8_of := goodIn_r _ [6, 7, 12, 13, 14, 15, 16, 17, 18, 19, 20, 21, 22, 23, 24, 25, 26, 27, 28, 29, 30, 31, 32, 33, 34, 35, 36, 37, 38, 39, 40] (by decide +kernel) (by decide +kernel)
set_option maxRecDepth 20000 in
theorem gX8_piece_X8_of : GoodIn wsX8_piece (wsV RX8 70 RX8 yX8_of wsX8_of) := goodIn_app (goodIn_of _ (by decide +kernel)) ggX8_piece_X8_of
set_option maxRecDepth 20000 in
theorem ggX8_piece_X8_isPresent : GoodIn wsX8_piece wsX8_isPresent := goodIn_r _ [11, 2, 3, 4, 5, 6, 7, 12, 13, 14, 15, 16, 17, 18, 19, 20, 21, 22, 23, 24, 25, 26, 27, 28, 29, 30, 31, 32, 33, 34, 35, 36, 37, 38, 39, 40] (by decide +kernel) (by decide +kernel)
set_option maxRecDepth 20000 in
theorem gX8_piece_X8_isPresent : GoodIn wsX8_piece (wsV RX8 74 RX8 yX8_isPresent wsX8_isPresent) := goodIn_app (goodIn_of _ (by decide +kernel)) ggX8_piece_X8_isPresent
theorem dX8_piece_0 : decode cX8_piece 0 = .ok (.iconst 0, 1) := by decide +kernel
theorem dX8_piece_1 : decode cX8_piece 1 = .ok (.istore 4, 2) := by decide +kernel
theorem dX8_piece_3 : decode cX8_piece 3 = .ok (.iconst 0, 1) := by decide +kernel
theorem dX8_piece_4 : decode cX8_piece 4 = .ok (.istore 5, 2) := by decide +kernel
theorem dX8_piece_6 : decode cX8_piece 6 = .ok (.iload 5, 2) := by decide +kernel
theorem dX8_piece_8 : decode cX8_piece 8 = .ok (.aload_n 0, 1) := by decide +kernel
theorem dX8_piece_9 : decode cX8_piece 9 = .ok (.getfield 64, 3) := by decide +kernel
theorem dX8_piece_12 : decode cX8_piece 12 = .ok (.if_icmp .ge 61, 3) := by decide +kernel
theorem dX8_piece_15 : decode cX8_piece 15 = .ok (.iload 4, 2) := by decide +kernel
theorem dX8_piece_17 : decode cX8_piece 17 = .ok (.aload_n 0, 1) := by decide +kernel
theorem dX8_piece_18 : decode cX8_piece 18 = .ok (.iload 5, 2) := by decide +kernel
theorem dX8_piece_20 : decode cX8_piece 20 = .ok (.iconst 0, 1) := by decide +kernel
theorem dX8_piece_21 : decode cX8_piece 21 = .ok (.invokevirtual 70, 3) := by decide +kernel
theorem dX8_piece_24 : decode cX8_piece 24 = .ok (.ifCond .ne 39, 3) := by decide +kernel
theorem dX8_piece_27 : decode cX8_piece 27 = .ok (.aload_n 0, 1) := by decide +kernel
theorem dX8_piece_28 : decode cX8_piece 28 = .ok (.iload 5, 2) := by decide +kernel
theorem dX8_piece_30 : decode cX8_piece 30 = .ok (.iconst 1, 1) := by decide +kernel
theorem dX8_piece_31 : decode cX8_piece 31 = .ok (.invokevirtual 70, 3) := by decide +kernel
theorem dX8_piece_34 : decode cX8_piece 34 = .ok (.iload_n 1, 1) := by decide +kernel
theorem dX8_piece_35 : decode cX8_piece 35 = .ok (.if_icmp .ne 28, 3) := by decide +kernel
theorem dX8_piece_38 : decode cX8_piece 38 = .ok (.aload_n 0, 1) := by decide +kernel
theorem dX8_piece_39 : decode cX8_piece 39 = .ok (.iload 5, 2) := by decide +kernel
theorem dX8_piece_41 : decode cX8_piece 41 = .ok (.iconst 3, 1) := by decide +kernel
theorem dX8_piece_42 : decode cX8_piece 42 = .ok (.invokevirtual 70, 3) := by decide +kernel
theorem dX8_piece_45 : decode cX8_piece 45 = .ok (.iload_n 2, 1) := by decide +kernel
theorem dX8_piece_46 : decode cX8_piece 46 = .ok (.if_icmp .ge 17, 3) := by decide +kernel
theorem dX8_piece_49 : decode cX8_piece 49 = .ok (.aload_n 0, 1) := by decide +kernel
theorem dX8_piece_50 : decode cX8_piece 50 = .ok (.iload 5, 2) := by decide +kernel
theorem dX8_piece_52 : decode cX8_piece 52 = .ok (.iload_n 3, 1) := by decide +kernel
theorem dX8_piece_53 : decode cX8_piece 53 = .ok (.invokevirtual 74, 3) := by decide +kernel
theorem dX8_piece_56 : decode cX8_piece 56 = .ok (.ifCond .eq 7, 3) := by decide +kernel
theorem dX8_piece_59 : decode cX8_piece 59 = .ok (.iconst 1, 1) := by decide +kernel
theorem dX8_piece_60 : decode cX8_piece 60 = .ok (.goto 4, 3) := by decide +kernel
theorem dX8_piece_63 : decode cX8_piece 63 = .ok (.iconst 0, 1) := by decide +kernel
theorem dX8_piece_64 : decode cX8_piece 64 = .ok (.iadd, 1) := by decide +kernel
theorem dX8_piece_65 : decode cX8_piece 65 = .ok (.istore 4, 2) := by decide +kernel
theorem dX8_piece_67 : decode cX8_piece 67 = .ok (.iinc 5 1, 3) := by decide +kernel
theorem dX8_piece_70 : decode cX8_piece 70 = .ok (.goto (-64), 3) := by decide +kernel
theorem dX8_piece_73 : decode cX8_piece 73 = .ok (.bipush 11, 2) := by decide +kernel
theorem dX8_piece_75 : decode cX8_piece 75 = .ok (.iload_n 1, 1) := by decide +kernel
theorem dX8_piece_76 : decode cX8_piece 76 = .ok (.imul, 1) := by decide +kernel
theorem dX8_piece_77 : decode cX8_piece 77 = .ok (.iload 4, 2) := by decide +kernel
theorem dX8_piece_79 : decode cX8_piece 79 = .ok (.iadd, 1) := by decide +kernel
theorem dX8_piece_80 : decode cX8_piece 80 = .ok (.ireturn, 1) := by decide +kernel
set_option maxRecDepth 20000 in
theorem ggX8_lay_X8_of : GoodIn wsX8_lay wsX8_of := goodIn_r _ [7, 8, 21, 22, 23, 24, 25, 26, 27, 28, 29, 30, 31, 32, 33, 34, 35, 36, 37, 38, 39, 40, 41, 42, 43, 44, 45, 46, 47, 48, 49] (by decide +kernel) (by decide +kernel)
set_option maxRecDepth 20000 in
theorem gX8_lay_X8_of : GoodIn wsX8_lay (wsV RX8 70 RX8 yX8_of wsX8_of) := goodIn_app (goodIn_of _ (by decide +kernel)) ggX8_lay_X8_of
set_option maxRecDepth 20000 in
theorem ggX8_lay_X8_isPresent : GoodIn wsX8_lay wsX8_isPresent := goodIn_r _ [12, 3, 4, 5, 6, 7, 8, 21, 22, 23, 24, 25, 26, 27, 28, 29, 30, 31, 32, 33, 34, 35, 36, 37, 38, 39, 40, 41, 42, 43, 44, 45, 46, 47, 48, 49] (by decide +kernel) (by decide +kernel)
set_option maxRecDepth 20000 in
theorem gX8_lay_X8_isPresent : GoodIn wsX8_lay (wsV RX8 74 RX8 yX8_isPresent wsX8_isPresent) := goodIn_app (goodIn_of _ (by decide +kernel)) ggX8_lay_X8_isPresent
set_option maxRecDepth 20000 in
theorem ggX8_lay_X8_piece : GoodIn wsX8_lay wsX8_piece := goodIn_r _ [16, 2, 3, 4, 5, 6, 7, 8, 9, 10, 11, 12, 21, 22, 23, 24, 25, 26, 27, 28, 29, 30, 31, 32, 33, 34, 35, 36, 37, 38, 39, 40, 41, 42, 43, 44, 45, 46, 47, 48, 49] (by decide +kernel) (by decide +kernel)
set_option maxRecDepth 20000 in
theorem gX8_lay_X8_piece : GoodIn wsX8_lay (wsV RX8 78 RX8 yX8_piece wsX8_piece) := goodIn_app (goodIn_of _ (by decide +kernel)) ggX8_lay_X8_piece
set_option maxRecDepth 20000 in
theorem ggX8_lay_X8_root : GoodIn wsX8_lay wsX8_root := goodIn_r _ [20, 1, 21, 22, 23, 24, 25, 26, 27, 28, 29, 30, 31, 32, 33, 34, 35, 36, 37, 38, 39, 40, 41, 42, 43, 44, 45, 46, 47, 48, 49] (by decide +kernel) (by decide +kernel)
set_option maxRecDepth 20000 in
theorem gX8_lay_X8_root : GoodIn wsX8_lay (wsV RX8 82 RX8 yX8_root wsX8_root) := goodIn_app (goodIn_of _ (by decide +kernel)) ggX8_lay_X8_root
theorem dX8_lay_0 : decode cX8_lay 0 = .ok (.iconst 0, 1) := by decide +kernel
theorem dX8_lay_1 : decode cX8_lay 1 = .ok (.istore_n 2, 1) := by decide +kernel
theorem dX8_lay_2 : decode cX8_lay 2 = .ok (.iload_n 2, 1) := by decide +kernel
theorem dX8_lay_3 : decode cX8_lay 3 = .ok (.bipush 88, 2) := by decide +kernel
theorem dX8_lay_5 : decode cX8_lay 5 = .ok (.if_icmp .ge 16, 3) := by decide +kernel
theorem dX8_lay_8 : decode cX8_lay 8 = .ok (.aload_n 0, 1) := by decide +kernel
theorem dX8_lay_9 : decode cX8_lay 9 = .ok (.getfield 22, 3) := by decide +kernel
theorem dX8_lay_12 : decode cX8_lay 12 = .ok (.iload_n 2, 1) := by decide +kernel
theorem dX8_lay_13 : decode cX8_lay 13 = .ok (.iload_n 2, 1) := by decide +kernel
theorem dX8_lay_14 : decode cX8_lay 14 = .ok (.iastore, 1) := by decide +kernel
theorem dX8_lay_15 : decode cX8_lay 15 = .ok (.iinc 2 1, 3) := by decide +kernel
theorem dX8_lay_18 : decode cX8_lay 18 = .ok (.goto (-16), 3) := by decide +kernel
theorem dX8_lay_21 : decode cX8_lay 21 = .ok (.iconst 0, 1) := by decide +kernel
theorem dX8_lay_22 : decode cX8_lay 22 = .ok (.istore_n 2, 1) := by decide +kernel
theorem dX8_lay_23 : decode cX8_lay 23 = .ok (.iload_n 2, 1) := by decide +kernel
theorem dX8_lay_24 : decode cX8_lay 24 = .ok (.aload_n 0, 1) := by decide +kernel
theorem dX8_lay_25 : decode cX8_lay 25 = .ok (.getfield 64, 3) := by decide +kernel
theorem dX8_lay_28 : decode cX8_lay 28 = .ok (.if_icmp .ge 81, 3) := by decide +kernel
theorem dX8_lay_31 : decode cX8_lay 31 = .ok (.aload_n 0, 1) := by decide +kernel
theorem dX8_lay_32 : decode cX8_lay 32 = .ok (.iload_n 2, 1) := by decide +kernel
theorem dX8_lay_33 : decode cX8_lay 33 = .ok (.iconst 0, 1) := by decide +kernel
theorem dX8_lay_34 : decode cX8_lay 34 = .ok (.invokevirtual 70, 3) := by decide +kernel
theorem dX8_lay_37 : decode cX8_lay 37 = .ok (.iconst 1, 1) := by decide +kernel
theorem dX8_lay_38 : decode cX8_lay 38 = .ok (.if_icmp .ne 65, 3) := by decide +kernel
theorem dX8_lay_41 : decode cX8_lay 41 = .ok (.aload_n 0, 1) := by decide +kernel
theorem dX8_lay_42 : decode cX8_lay 42 = .ok (.iload_n 2, 1) := by decide +kernel
theorem dX8_lay_43 : decode cX8_lay 43 = .ok (.iload_n 1, 1) := by decide +kernel
theorem dX8_lay_44 : decode cX8_lay 44 = .ok (.invokevirtual 74, 3) := by decide +kernel
theorem dX8_lay_47 : decode cX8_lay 47 = .ok (.ifCond .eq 56, 3) := by decide +kernel
theorem dX8_lay_50 : decode cX8_lay 50 = .ok (.aload_n 0, 1) := by decide +kernel
theorem dX8_lay_51 : decode cX8_lay 51 = .ok (.aload_n 0, 1) := by decide +kernel
theorem dX8_lay_52 : decode cX8_lay 52 = .ok (.aload_n 0, 1) := by decide +kernel
theorem dX8_lay_53 : decode cX8_lay 53 = .ok (.iload_n 2, 1) := by decide +kernel
theorem dX8_lay_54 : decode cX8_lay 54 = .ok (.iconst 1, 1) := by decide +kernel
theorem dX8_lay_55 : decode cX8_lay 55 = .ok (.invokevirtual 70, 3) := by decide +kernel
theorem dX8_lay_58 : decode cX8_lay 58 = .ok (.aload_n 0, 1) := by decide +kernel
theorem dX8_lay_59 : decode cX8_lay 59 = .ok (.iload_n 2, 1) := by decide +kernel
theorem dX8_lay_60 : decode cX8_lay 60 = .ok (.iconst 3, 1) := by decide +kernel
theorem dX8_lay_61 : decode cX8_lay 61 = .ok (.invokevirtual 70, 3) := by decide +kernel
theorem dX8_lay_64 : decode cX8_lay 64 = .ok (.iload_n 1, 1) := by decide +kernel
theorem dX8_lay_65 : decode cX8_lay 65 = .ok (.invokevirtual 78, 3) := by decide +kernel
theorem dX8_lay_68 : decode cX8_lay 68 = .ok (.invokevirtual 82, 3) := by decide +kernel
theorem dX8_lay_71 : decode cX8_lay 71 = .ok (.istore_n 3, 1) := by decide +kernel
theorem dX8_lay_72 : decode cX8_lay 72 = .ok (.aload_n 0, 1) := by decide +kernel
theorem dX8_lay_73 : decode cX8_lay 73 = .ok (.aload_n 0, 1) := by decide +kernel
theorem dX8_lay_74 : decode cX8_lay 74 = .ok (.aload_n 0, 1) := by decide +kernel
theorem dX8_lay_75 : decode cX8_lay 75 = .ok (.iload_n 2, 1) := by decide +kernel
theorem dX8_lay_76 : decode cX8_lay 76 = .ok (.iconst 2, 1) := by decide +kernel
theorem dX8_lay_77 : decode cX8_lay 77 = .ok (.invokevirtual 70, 3) := by decide +kernel
theorem dX8_lay_80 : decode cX8_lay 80 = .ok (.aload_n 0, 1) := by decide +kernel
theorem dX8_lay_81 : decode cX8_lay 81 = .ok (.iload_n 2, 1) := by decide +kernel
theorem dX8_lay_82 : decode cX8_lay 82 = .ok (.iconst 3, 1) := by decide +kernel
theorem dX8_lay_83 : decode cX8_lay 83 = .ok (.invokevirtual 70, 3) := by decide +kernel
theorem dX8_lay_86 : decode cX8_lay 86 = .ok (.iload_n 1, 1) := by decide +kernel
theorem dX8_lay_87 : decode cX8_lay 87 = .ok (.invokevirtual 78, 3) := by decide +kernel
theorem dX8_lay_90 : decode cX8_lay 90 = .ok (.invokevirtual 82, 3) := by decide +kernel
theorem dX8_lay_93 : decode cX8_lay 93 = .ok (.istore 4, 2) := by decide +kernel
theorem dX8_lay_95 : decode cX8_lay 95 = .ok (.aload_n 0, 1) := by decide +kernel
theorem dX8_lay_96 : decode cX8_lay 96 = .ok (.getfield 22, 3) := by decide +kernel
theorem dX8_lay_99 : decode cX8_lay 99 = .ok (.iload_n 3, 1) := by decide +kernel
theorem dX8_lay_100 : decode cX8_lay 100 = .ok (.iload 4, 2) := by decide +kernel
theorem dX8_lay_102 : decode cX8_lay 102 = .ok (.iastore, 1) := by decide +kernel
theorem dX8_lay_103 : decode cX8_lay 103 = .ok (.iinc 2 1, 3) := by decide +kernel
theorem dX8_lay_106 : decode cX8_lay 106 = .ok (.goto (-83), 3) := by decide +kernel
theorem dX8_lay_109 : decode cX8_lay 109 = .ok (.return_, 1) := by decide +kernel
set_option maxRecDepth 20000 in
theorem ggX8_layNets_X8_lay : GoodIn wsX8_layNets wsX8_lay := goodIn_r _ [8, 9, 10, 11, 12, 13, 7, 14, 15, 16, 17, 18, 19, 20, 21, 22, 23, 24, 25, 26, 27, 28, 29, 30, 31, 32, 33, 34, 35, 36, 37, 38, 39, 40, 41, 42, 43, 44, 45, 46, 47, 48, 49, 50, 51, 52, 53, 54, 55, 56] (by decide +kernel) (by decide +kernel)
set_option maxRecDepth 20000 in
theorem gX8_layNets_X8_lay : GoodIn wsX8_layNets (wsV RX8 86 RX8 yX8_lay wsX8_lay) := goodIn_app (goodIn_of _ (by decide +kernel)) ggX8_layNets_X8_lay
set_option maxRecDepth 20000 in
theorem ggX8_layNets_X8_piece : GoodIn wsX8_layNets wsX8_piece := goodIn_r _ [23, 10, 11, 12, 13, 7, 14, 15, 16, 17, 18, 19, 28, 29, 30, 31, 32, 33, 34, 35, 36, 37, 38, 39, 40, 41, 42, 43, 44, 45, 46, 47, 48, 49, 50, 51, 52, 53, 54, 55, 56] (by decide +kernel) (by decide +kernel)
set_option maxRecDepth 20000 in
theorem gX8_layNets_X8_piece : GoodIn wsX8_layNets (wsV RX8 78 RX8 yX8_piece wsX8_piece) := goodIn_app (goodIn_of _ (by decide +kernel)) ggX8_layNets_X8_piece
set_option maxRecDepth 20000 in
theorem ggX8_layNets_X8_root : GoodIn wsX8_layNets wsX8_root := goodIn_r _ [27, 9, 28, 29, 30, 31, 32, 33, 34, 35, 36, 37, 38, 39, 40, 41, 42, 43, 44, 45, 46, 47, 48, 49, 50, 51, 52, 53, 54, 55, 56] (by decide +kernel) (by decide +kernel)
set_option maxRecDepth 20000 in
theorem gX8_layNets_X8_root : GoodIn wsX8_layNets (wsV RX8 82 RX8 yX8_root wsX8_root) := goodIn_app (goodIn_of _ (by decide +kernel)) ggX8_layNets_X8_root
theorem dX8_layNets_0 : decode cX8_layNets 0 = .ok (.aload_n 0, 1) := by decide +kernel
theorem dX8_layNets_1 : decode cX8_layNets 1 = .ok (.iload_n 1, 1) := by decide +kernel
theorem dX8_layNets_2 : decode cX8_layNets 2 = .ok (.invokevirtual 86, 3) := by decide +kernel
theorem dX8_layNets_5 : decode cX8_layNets 5 = .ok (.iconst 0, 1) := by decide +kernel
theorem dX8_layNets_6 : decode cX8_layNets 6 = .ok (.istore_n 2, 1) := by decide +kernel
theorem dX8_layNets_7 : decode cX8_layNets 7 = .ok (.iload_n 2, 1) := by decide +kernel
theorem dX8_layNets_8 : decode cX8_layNets 8 = .ok (.bipush 16, 2) := by decide +kernel
theorem dX8_layNets_10 : decode cX8_layNets 10 = .ok (.if_icmp .ge 44, 3) := by decide +kernel
theorem dX8_layNets_13 : decode cX8_layNets 13 = .ok (.aload_n 0, 1) := by decide +kernel
theorem dX8_layNets_14 : decode cX8_layNets 14 = .ok (.getfield 25, 3) := by decide +kernel
theorem dX8_layNets_17 : decode cX8_layNets 17 = .ok (.iload_n 2, 1) := by decide +kernel
theorem dX8_layNets_18 : decode cX8_layNets 18 = .ok (.aload_n 0, 1) := by decide +kernel
theorem dX8_layNets_19 : decode cX8_layNets 19 = .ok (.aload_n 0, 1) := by decide +kernel
theorem dX8_layNets_20 : decode cX8_layNets 20 = .ok (.aload_n 0, 1) := by decide +kernel
theorem dX8_layNets_21 : decode cX8_layNets 21 = .ok (.getfield 7, 3) := by decide +kernel
theorem dX8_layNets_24 : decode cX8_layNets 24 = .ok (.iload_n 2, 1) := by decide +kernel
theorem dX8_layNets_25 : decode cX8_layNets 25 = .ok (.iaload, 1) := by decide +kernel
theorem dX8_layNets_26 : decode cX8_layNets 26 = .ok (.iload_n 2, 1) := by decide +kernel
theorem dX8_layNets_27 : decode cX8_layNets 27 = .ok (.bipush 8, 2) := by decide +kernel
theorem dX8_layNets_29 : decode cX8_layNets 29 = .ok (.if_icmp .ge 7, 3) := by decide +kernel
theorem dX8_layNets_32 : decode cX8_layNets 32 = .ok (.iconst 0, 1) := by decide +kernel
theorem dX8_layNets_33 : decode cX8_layNets 33 = .ok (.goto 7, 3) := by decide +kernel
theorem dX8_layNets_36 : decode cX8_layNets 36 = .ok (.aload_n 0, 1) := by decide +kernel
theorem dX8_layNets_37 : decode cX8_layNets 37 = .ok (.getfield 52, 3) := by decide +kernel
theorem dX8_layNets_40 : decode cX8_layNets 40 = .ok (.iload_n 1, 1) := by decide +kernel
theorem dX8_layNets_41 : decode cX8_layNets 41 = .ok (.invokevirtual 78, 3) := by decide +kernel
theorem dX8_layNets_44 : decode cX8_layNets 44 = .ok (.invokevirtual 82, 3) := by decide +kernel
theorem dX8_layNets_47 : decode cX8_layNets 47 = .ok (.iastore, 1) := by decide +kernel
theorem dX8_layNets_48 : decode cX8_layNets 48 = .ok (.iinc 2 1, 3) := by decide +kernel
theorem dX8_layNets_51 : decode cX8_layNets 51 = .ok (.goto (-44), 3) := by decide +kernel
theorem dX8_layNets_54 : decode cX8_layNets 54 = .ok (.return_, 1) := by decide +kernel
theorem dX8_same_0 : decode cX8_same 0 = .ok (.iconst 0, 1) := by decide +kernel
theorem dX8_same_1 : decode cX8_same 1 = .ok (.istore_n 3, 1) := by decide +kernel
theorem dX8_same_2 : decode cX8_same 2 = .ok (.iconst 0, 1) := by decide +kernel
theorem dX8_same_3 : decode cX8_same 3 = .ok (.istore 4, 2) := by decide +kernel
theorem dX8_same_5 : decode cX8_same 5 = .ok (.iload 4, 2) := by decide +kernel
theorem dX8_same_7 : decode cX8_same 7 = .ok (.bipush 8, 2) := by decide +kernel
theorem dX8_same_9 : decode cX8_same 9 = .ok (.if_icmp .ge 41, 3) := by decide +kernel
theorem dX8_same_12 : decode cX8_same 12 = .ok (.iload_n 3, 1) := by decide +kernel
theorem dX8_same_13 : decode cX8_same 13 = .ok (.aload_n 0, 1) := by decide +kernel
theorem dX8_same_14 : decode cX8_same 14 = .ok (.getfield 25, 3) := by decide +kernel
theorem dX8_same_17 : decode cX8_same 17 = .ok (.bipush 8, 2) := by decide +kernel
theorem dX8_same_19 : decode cX8_same 19 = .ok (.iload_n 2, 1) := by decide +kernel
theorem dX8_same_20 : decode cX8_same 20 = .ok (.imul, 1) := by decide +kernel
theorem dX8_same_21 : decode cX8_same 21 = .ok (.iload 4, 2) := by decide +kernel
theorem dX8_same_23 : decode cX8_same 23 = .ok (.iadd, 1) := by decide +kernel
theorem dX8_same_24 : decode cX8_same 24 = .ok (.iaload, 1) := by decide +kernel
theorem dX8_same_25 : decode cX8_same 25 = .ok (.aload_n 0, 1) := by decide +kernel
theorem dX8_same_26 : decode cX8_same 26 = .ok (.getfield 25, 3) := by decide +kernel
theorem dX8_same_29 : decode cX8_same 29 = .ok (.iload_n 1, 1) := by decide +kernel
theorem dX8_same_30 : decode cX8_same 30 = .ok (.iaload, 1) := by decide +kernel
theorem dX8_same_31 : decode cX8_same 31 = .ok (.if_icmp .ne 10, 3) := by decide +kernel
theorem dX8_same_34 : decode cX8_same 34 = .ok (.iconst 1, 1) := by decide +kernel
theorem dX8_same_35 : decode cX8_same 35 = .ok (.iload 4, 2) := by decide +kernel
theorem dX8_same_37 : decode cX8_same 37 = .ok (.ishl, 1) := by decide +kernel
theorem dX8_same_38 : decode cX8_same 38 = .ok (.goto 4, 3) := by decide +kernel
theorem dX8_same_41 : decode cX8_same 41 = .ok (.iconst 0, 1) := by decide +kernel
theorem dX8_same_42 : decode cX8_same 42 = .ok (.ior, 1) := by decide +kernel
theorem dX8_same_43 : decode cX8_same 43 = .ok (.istore_n 3, 1) := by decide +kernel
theorem dX8_same_44 : decode cX8_same 44 = .ok (.iinc 4 1, 3) := by decide +kernel
theorem dX8_same_47 : decode cX8_same 47 = .ok (.goto (-42), 3) := by decide +kernel
theorem dX8_same_50 : decode cX8_same 50 = .ok (.iload_n 3, 1) := by decide +kernel
theorem dX8_same_51 : decode cX8_same 51 = .ok (.ireturn, 1) := by decide +kernel
theorem dX8_bits_0 : decode cX8_bits 0 = .ok (.iconst 0, 1) := by decide +kernel
theorem dX8_bits_1 : decode cX8_bits 1 = .ok (.istore_n 1, 1) := by decide +kernel
theorem dX8_bits_2 : decode cX8_bits 2 = .ok (.iconst 0, 1) := by decide +kernel
theorem dX8_bits_3 : decode cX8_bits 3 = .ok (.istore_n 2, 1) := by decide +kernel
theorem dX8_bits_4 : decode cX8_bits 4 = .ok (.iload_n 2, 1) := by decide +kernel
theorem dX8_bits_5 : decode cX8_bits 5 = .ok (.bipush 16, 2) := by decide +kernel
theorem dX8_bits_7 : decode cX8_bits 7 = .ok (.if_icmp .ge 17, 3) := by decide +kernel
theorem dX8_bits_10 : decode cX8_bits 10 = .ok (.iload_n 1, 1) := by decide +kernel
theorem dX8_bits_11 : decode cX8_bits 11 = .ok (.iload_n 0, 1) := by decide +kernel
theorem dX8_bits_12 : decode cX8_bits 12 = .ok (.iload_n 2, 1) := by decide +kernel
theorem dX8_bits_13 : decode cX8_bits 13 = .ok (.ishr, 1) := by decide +kernel
theorem dX8_bits_14 : decode cX8_bits 14 = .ok (.iconst 1, 1) := by decide +kernel
theorem dX8_bits_15 : decode cX8_bits 15 = .ok (.iand, 1) := by decide +kernel
theorem dX8_bits_16 : decode cX8_bits 16 = .ok (.iadd, 1) := by decide +kernel
theorem dX8_bits_17 : decode cX8_bits 17 = .ok (.istore_n 1, 1) := by decide +kernel
theorem dX8_bits_18 : decode cX8_bits 18 = .ok (.iinc 2 1, 3) := by decide +kernel
theorem dX8_bits_21 : decode cX8_bits 21 = .ok (.goto (-17), 3) := by decide +kernel
theorem dX8_bits_24 : decode cX8_bits 24 = .ok (.iload_n 1, 1) := by decide +kernel
theorem dX8_bits_25 : decode cX8_bits 25 = .ok (.ireturn, 1) := by decide +kernel
set_option maxRecDepth 20000 in
theorem ggX8_statusNow_X8_same : GoodIn wsX8_statusNow wsX8_same := goodIn_r _ [5, 6, 10, 11, 12, 13, 14, 15, 16, 17, 18, 19, 20, 21, 22, 23, 24, 25, 26, 27, 28, 29, 30, 31, 32, 33, 34, 35, 36, 37, 38] (by decide +kernel) (by decide +kernel)
set_option maxRecDepth 20000 in
theorem gX8_statusNow_X8_same : GoodIn wsX8_statusNow (wsV RX8 90 RX8 yX8_same wsX8_same) := goodIn_app (goodIn_of _ (by decide +kernel)) ggX8_statusNow_X8_same
set_option maxRecDepth 20000 in
theorem ggX8_statusNow_X8_bits : GoodIn wsX8_statusNow wsX8_bits := goodIn_r _ [9] (by decide +kernel) (by decide +kernel)
set_option maxRecDepth 20000 in
theorem gX8_statusNow_X8_bits : GoodIn wsX8_statusNow (va_wsS RX8 93 yX8_bits wsX8_bits) := goodIn_app (goodIn_of _ (by decide +kernel)) ggX8_statusNow_X8_bits
theorem dX8_statusNow_0 : decode cX8_statusNow 0 = .ok (.aload_n 0, 1) := by decide +kernel
theorem dX8_statusNow_1 : decode cX8_statusNow 1 = .ok (.iload_n 1, 1) := by decide +kernel
theorem dX8_statusNow_2 : decode cX8_statusNow 2 = .ok (.iconst 0, 1) := by decide +kernel
theorem dX8_statusNow_3 : decode cX8_statusNow 3 = .ok (.invokevirtual 90, 3) := by decide +kernel
theorem dX8_statusNow_6 : decode cX8_statusNow 6 = .ok (.istore_n 2, 1) := by decide +kernel
theorem dX8_statusNow_7 : decode cX8_statusNow 7 = .ok (.aload_n 0, 1) := by decide +kernel
theorem dX8_statusNow_8 : decode cX8_statusNow 8 = .ok (.iload_n 1, 1) := by decide +kernel
theorem dX8_statusNow_9 : decode cX8_statusNow 9 = .ok (.iconst 1, 1) := by decide +kernel
theorem dX8_statusNow_10 : decode cX8_statusNow 10 = .ok (.invokevirtual 90, 3) := by decide +kernel
theorem dX8_statusNow_13 : decode cX8_statusNow 13 = .ok (.istore_n 3, 1) := by decide +kernel
theorem dX8_statusNow_14 : decode cX8_statusNow 14 = .ok (.iload_n 2, 1) := by decide +kernel
theorem dX8_statusNow_15 : decode cX8_statusNow 15 = .ok (.invokestatic 93, 3) := by decide +kernel
theorem dX8_statusNow_18 : decode cX8_statusNow 18 = .ok (.iconst 1, 1) := by decide +kernel
theorem dX8_statusNow_19 : decode cX8_statusNow 19 = .ok (.if_icmp .gt 11, 3) := by decide +kernel
theorem dX8_statusNow_22 : decode cX8_statusNow 22 = .ok (.iload_n 3, 1) := by decide +kernel
theorem dX8_statusNow_23 : decode cX8_statusNow 23 = .ok (.invokestatic 93, 3) := by decide +kernel
theorem dX8_statusNow_26 : decode cX8_statusNow 26 = .ok (.iconst 1, 1) := by decide +kernel
theorem dX8_statusNow_27 : decode cX8_statusNow 27 = .ok (.if_icmp .le 7, 3) := by decide +kernel
theorem dX8_statusNow_30 : decode cX8_statusNow 30 = .ok (.iconst 3, 1) := by decide +kernel
theorem dX8_statusNow_31 : decode cX8_statusNow 31 = .ok (.goto 23, 3) := by decide +kernel
theorem dX8_statusNow_34 : decode cX8_statusNow 34 = .ok (.iload_n 3, 1) := by decide +kernel
theorem dX8_statusNow_35 : decode cX8_statusNow 35 = .ok (.ifCond .ne 7, 3) := by decide +kernel
theorem dX8_statusNow_38 : decode cX8_statusNow 38 = .ok (.iconst 1, 1) := by decide +kernel
theorem dX8_statusNow_39 : decode cX8_statusNow 39 = .ok (.goto 15, 3) := by decide +kernel
theorem dX8_statusNow_42 : decode cX8_statusNow 42 = .ok (.iload_n 3, 1) := by decide +kernel
theorem dX8_statusNow_43 : decode cX8_statusNow 43 = .ok (.iconst 1, 1) := by decide +kernel
theorem dX8_statusNow_44 : decode cX8_statusNow 44 = .ok (.iload_n 1, 1) := by decide +kernel
theorem dX8_statusNow_45 : decode cX8_statusNow 45 = .ok (.ishl, 1) := by decide +kernel
theorem dX8_statusNow_46 : decode cX8_statusNow 46 = .ok (.if_icmp .eq 7, 3) := by decide +kernel
theorem dX8_statusNow_49 : decode cX8_statusNow 49 = .ok (.iconst 2, 1) := by decide +kernel
theorem dX8_statusNow_50 : decode cX8_statusNow 50 = .ok (.goto 4, 3) := by decide +kernel
theorem dX8_statusNow_53 : decode cX8_statusNow 53 = .ok (.iconst 0, 1) := by decide +kernel
theorem dX8_statusNow_54 : decode cX8_statusNow 54 = .ok (.ireturn, 1) := by decide +kernel
set_option maxRecDepth 20000 in
theorem ggX8_wrong_X8_layNets : GoodIn wsX8_wrong wsX8_layNets := goodIn_r _ [5, 6, 7, 8, 9, 10, 11, 4, 12, 13, 14, 15, 16, 17, 18, 19, 20, 21, 22, 23, 24, 25, 26, 27, 28, 29, 30, 31, 43, 44, 45, 46, 47, 48, 49, 50, 51, 52, 53, 54, 55, 56, 57, 58, 59, 60, 61, 62, 63, 64, 65, 66, 67, 68, 69, 70, 71] (by decide +kernel) (by decide +kernel)
set_option maxRecDepth 20000 in
theorem gX8_wrong_X8_layNets : GoodIn wsX8_wrong (wsV RX8 96 RX8 yX8_layNets wsX8_layNets) := goodIn_app (goodIn_of _ (by decide +kernel)) ggX8_wrong_X8_layNets
set_option maxRecDepth 20000 in
theorem ggX8_wrong_X8_statusNow : GoodIn wsX8_wrong wsX8_statusNow := goodIn_r _ [35, 36, 37, 38, 4, 39, 6, 40, 41, 42, 43, 44, 45, 46, 47, 48, 49, 50, 51, 52, 53, 54, 55, 56, 57, 58, 59, 60, 61, 62, 63, 64, 65, 66, 67, 68, 69, 70, 71] (by decide +kernel) (by decide +kernel)
set_option maxRecDepth 20000 in
theorem gX8_wrong_X8_statusNow : GoodIn wsX8_wrong (wsV RX8 99 RX8 yX8_statusNow wsX8_statusNow) := goodIn_app (goodIn_of _ (by decide +kernel)) ggX8_wrong_X8_statusNow
theorem dX8_wrong_0 : decode cX8_wrong 0 = .ok (.aload_n 0, 1) := by decide +kernel
theorem dX8_wrong_1 : decode cX8_wrong 1 = .ok (.iload_n 1, 1) := by decide +kernel
theorem dX8_wrong_2 : decode cX8_wrong 2 = .ok (.invokevirtual 96, 3) := by decide +kernel
theorem dX8_wrong_5 : decode cX8_wrong 5 = .ok (.iconst 0, 1) := by decide +kernel
theorem dX8_wrong_6 : decode cX8_wrong 6 = .ok (.istore_n 2, 1) := by decide +kernel
theorem dX8_wrong_7 : decode cX8_wrong 7 = .ok (.iconst 0, 1) := by decide +kernel
theorem dX8_wrong_8 : decode cX8_wrong 8 = .ok (.istore_n 3, 1) := by decide +kernel
theorem dX8_wrong_9 : decode cX8_wrong 9 = .ok (.iload_n 3, 1) := by decide +kernel
theorem dX8_wrong_10 : decode cX8_wrong 10 = .ok (.bipush 8, 2) := by decide +kernel
theorem dX8_wrong_12 : decode cX8_wrong 12 = .ok (.if_icmp .ge 27, 3) := by decide +kernel
theorem dX8_wrong_15 : decode cX8_wrong 15 = .ok (.iload_n 2, 1) := by decide +kernel
theorem dX8_wrong_16 : decode cX8_wrong 16 = .ok (.aload_n 0, 1) := by decide +kernel
theorem dX8_wrong_17 : decode cX8_wrong 17 = .ok (.iload_n 3, 1) := by decide +kernel
theorem dX8_wrong_18 : decode cX8_wrong 18 = .ok (.invokevirtual 99, 3) := by decide +kernel
theorem dX8_wrong_21 : decode cX8_wrong 21 = .ok (.ifCond .eq 9, 3) := by decide +kernel
theorem dX8_wrong_24 : decode cX8_wrong 24 = .ok (.iconst 1, 1) := by decide +kernel
theorem dX8_wrong_25 : decode cX8_wrong 25 = .ok (.iload_n 3, 1) := by decide +kernel
theorem dX8_wrong_26 : decode cX8_wrong 26 = .ok (.ishl, 1) := by decide +kernel
theorem dX8_wrong_27 : decode cX8_wrong 27 = .ok (.goto 4, 3) := by decide +kernel
theorem dX8_wrong_30 : decode cX8_wrong 30 = .ok (.iconst 0, 1) := by decide +kernel
theorem dX8_wrong_31 : decode cX8_wrong 31 = .ok (.ior, 1) := by decide +kernel
theorem dX8_wrong_32 : decode cX8_wrong 32 = .ok (.istore_n 2, 1) := by decide +kernel
theorem dX8_wrong_33 : decode cX8_wrong 33 = .ok (.iinc 3 1, 3) := by decide +kernel
theorem dX8_wrong_36 : decode cX8_wrong 36 = .ok (.goto (-27), 3) := by decide +kernel
theorem dX8_wrong_39 : decode cX8_wrong 39 = .ok (.iload_n 2, 1) := by decide +kernel
theorem dX8_wrong_40 : decode cX8_wrong 40 = .ok (.ireturn, 1) := by decide +kernel
set_option maxRecDepth 20000 in
theorem ggX8_begin_X8_within : GoodIn wsX8_begin wsX8_within := goodIn_r _ [6] (by decide +kernel) (by decide +kernel)
set_option maxRecDepth 20000 in
theorem gX8_begin_X8_within : GoodIn wsX8_begin (va_wsS RX8 48 yX8_within wsX8_within) := goodIn_app (goodIn_of _ (by decide +kernel)) ggX8_begin_X8_within
set_option maxRecDepth 20000 in
theorem ggX8_begin_X8_fresh : GoodIn wsX8_begin wsX8_fresh := goodIn_r _ [10, 2, 11, 12, 13, 14, 15, 16, 17, 18, 19, 20, 21, 22, 23, 24, 25, 26, 27, 28, 29, 30, 31, 32, 33, 34, 35, 36, 37, 38, 39, 40, 41, 42, 43, 44, 45] (by decide +kernel) (by decide +kernel)
set_option maxRecDepth 20000 in
theorem gX8_begin_X8_fresh : GoodIn wsX8_begin (wsV RX8 40 RX8 yX8_fresh wsX8_fresh) := goodIn_app (goodIn_of _ (by decide +kernel)) ggX8_begin_X8_fresh
theorem dX8_begin_0 : decode cX8_begin 0 = .ok (.aload_n 0, 1) := by decide +kernel
theorem dX8_begin_1 : decode cX8_begin 1 = .ok (.iload_n 1, 1) := by decide +kernel
theorem dX8_begin_2 : decode cX8_begin 2 = .ok (.iconst 2, 1) := by decide +kernel
theorem dX8_begin_3 : decode cX8_begin 3 = .ok (.sipush 999, 3) := by decide +kernel
theorem dX8_begin_6 : decode cX8_begin 6 = .ok (.invokestatic 48, 3) := by decide +kernel
theorem dX8_begin_9 : decode cX8_begin 9 = .ok (.ifCond .eq 18, 3) := by decide +kernel
theorem dX8_begin_12 : decode cX8_begin 12 = .ok (.iload_n 2, 1) := by decide +kernel
theorem dX8_begin_13 : decode cX8_begin 13 = .ok (.bipush 50, 2) := by decide +kernel
theorem dX8_begin_15 : decode cX8_begin 15 = .ok (.bipush 99, 2) := by decide +kernel
theorem dX8_begin_17 : decode cX8_begin 17 = .ok (.invokestatic 48, 3) := by decide +kernel
theorem dX8_begin_20 : decode cX8_begin 20 = .ok (.ifCond .eq 7, 3) := by decide +kernel
theorem dX8_begin_23 : decode cX8_begin 23 = .ok (.iconst 0, 1) := by decide +kernel
theorem dX8_begin_24 : decode cX8_begin 24 = .ok (.goto 4, 3) := by decide +kernel
theorem dX8_begin_27 : decode cX8_begin 27 = .ok (.iconst 1, 1) := by decide +kernel
theorem dX8_begin_28 : decode cX8_begin 28 = .ok (.putfield 44, 3) := by decide +kernel
theorem dX8_begin_31 : decode cX8_begin 31 = .ok (.aload_n 0, 1) := by decide +kernel
theorem dX8_begin_32 : decode cX8_begin 32 = .ok (.getfield 44, 3) := by decide +kernel
theorem dX8_begin_35 : decode cX8_begin 35 = .ok (.ifCond .le 5, 3) := by decide +kernel
theorem dX8_begin_38 : decode cX8_begin 38 = .ok (.iconst 0, 1) := by decide +kernel
theorem dX8_begin_39 : decode cX8_begin 39 = .ok (.ireturn, 1) := by decide +kernel
theorem dX8_begin_40 : decode cX8_begin 40 = .ok (.aload_n 0, 1) := by decide +kernel
theorem dX8_begin_41 : decode cX8_begin 41 = .ok (.getfield 52, 3) := by decide +kernel
theorem dX8_begin_44 : decode cX8_begin 44 = .ok (.istore_n 3, 1) := by decide +kernel
theorem dX8_begin_45 : decode cX8_begin 45 = .ok (.aload_n 0, 1) := by decide +kernel
theorem dX8_begin_46 : decode cX8_begin 46 = .ok (.iload_n 1, 1) := by decide +kernel
theorem dX8_begin_47 : decode cX8_begin 47 = .ok (.iload_n 2, 1) := by decide +kernel
theorem dX8_begin_48 : decode cX8_begin 48 = .ok (.invokevirtual 40, 3) := by decide +kernel
theorem dX8_begin_51 : decode cX8_begin 51 = .ok (.iload_n 3, 1) := by decide +kernel
theorem dX8_begin_52 : decode cX8_begin 52 = .ok (.ireturn, 1) := by decide +kernel
theorem dX8_swap_0 : decode cX8_swap 0 = .ok (.aload_n 0, 1) := by decide +kernel
theorem dX8_swap_1 : decode cX8_swap 1 = .ok (.getfield 7, 3) := by decide +kernel
theorem dX8_swap_4 : decode cX8_swap 4 = .ok (.bipush 8, 2) := by decide +kernel
theorem dX8_swap_6 : decode cX8_swap 6 = .ok (.iload_n 1, 1) := by decide +kernel
theorem dX8_swap_7 : decode cX8_swap 7 = .ok (.imul, 1) := by decide +kernel
theorem dX8_swap_8 : decode cX8_swap 8 = .ok (.iload_n 2, 1) := by decide +kernel
theorem dX8_swap_9 : decode cX8_swap 9 = .ok (.iadd, 1) := by decide +kernel
theorem dX8_swap_10 : decode cX8_swap 10 = .ok (.iaload, 1) := by decide +kernel
theorem dX8_swap_11 : decode cX8_swap 11 = .ok (.istore 4, 2) := by decide +kernel
theorem dX8_swap_13 : decode cX8_swap 13 = .ok (.aload_n 0, 1) := by decide +kernel
theorem dX8_swap_14 : decode cX8_swap 14 = .ok (.getfield 7, 3) := by decide +kernel
theorem dX8_swap_17 : decode cX8_swap 17 = .ok (.bipush 8, 2) := by decide +kernel
theorem dX8_swap_19 : decode cX8_swap 19 = .ok (.iload_n 1, 1) := by decide +kernel
theorem dX8_swap_20 : decode cX8_swap 20 = .ok (.imul, 1) := by decide +kernel
theorem dX8_swap_21 : decode cX8_swap 21 = .ok (.iload_n 2, 1) := by decide +kernel
theorem dX8_swap_22 : decode cX8_swap 22 = .ok (.iadd, 1) := by decide +kernel
theorem dX8_swap_23 : decode cX8_swap 23 = .ok (.aload_n 0, 1) := by decide +kernel
theorem dX8_swap_24 : decode cX8_swap 24 = .ok (.getfield 7, 3) := by decide +kernel
theorem dX8_swap_27 : decode cX8_swap 27 = .ok (.bipush 8, 2) := by decide +kernel
theorem dX8_swap_29 : decode cX8_swap 29 = .ok (.iload_n 1, 1) := by decide +kernel
theorem dX8_swap_30 : decode cX8_swap 30 = .ok (.imul, 1) := by decide +kernel
theorem dX8_swap_31 : decode cX8_swap 31 = .ok (.iload_n 3, 1) := by decide +kernel
theorem dX8_swap_32 : decode cX8_swap 32 = .ok (.iadd, 1) := by decide +kernel
theorem dX8_swap_33 : decode cX8_swap 33 = .ok (.iaload, 1) := by decide +kernel
theorem dX8_swap_34 : decode cX8_swap 34 = .ok (.iastore, 1) := by decide +kernel
theorem dX8_swap_35 : decode cX8_swap 35 = .ok (.aload_n 0, 1) := by decide +kernel
theorem dX8_swap_36 : decode cX8_swap 36 = .ok (.getfield 7, 3) := by decide +kernel
theorem dX8_swap_39 : decode cX8_swap 39 = .ok (.bipush 8, 2) := by decide +kernel
theorem dX8_swap_41 : decode cX8_swap 41 = .ok (.iload_n 1, 1) := by decide +kernel
theorem dX8_swap_42 : decode cX8_swap 42 = .ok (.imul, 1) := by decide +kernel
theorem dX8_swap_43 : decode cX8_swap 43 = .ok (.iload_n 3, 1) := by decide +kernel
theorem dX8_swap_44 : decode cX8_swap 44 = .ok (.iadd, 1) := by decide +kernel
theorem dX8_swap_45 : decode cX8_swap 45 = .ok (.iload 4, 2) := by decide +kernel
theorem dX8_swap_47 : decode cX8_swap 47 = .ok (.iastore, 1) := by decide +kernel
theorem dX8_swap_48 : decode cX8_swap 48 = .ok (.return_, 1) := by decide +kernel
set_option maxRecDepth 20000 in
theorem ggX8_exchange_X8_isEnd : GoodIn wsX8_exchange wsX8_isEnd := goodIn_r _ [6, 7, 8, 5, 9] (by decide +kernel) (by decide +kernel)
set_option maxRecDepth 20000 in
theorem gX8_exchange_X8_isEnd : GoodIn wsX8_exchange (va_wsS RX8 102 yX8_isEnd wsX8_isEnd) := goodIn_app (goodIn_of _ (by decide +kernel)) ggX8_exchange_X8_isEnd
set_option maxRecDepth 20000 in
theorem ggX8_exchange_X8_isWire : GoodIn wsX8_exchange wsX8_isWire := goodIn_r _ [12, 7, 8, 5, 9] (by decide +kernel) (by decide +kernel)
set_option maxRecDepth 20000 in
theorem gX8_exchange_X8_isWire : GoodIn wsX8_exchange (va_wsS RX8 106 yX8_isWire wsX8_isWire) := goodIn_app (goodIn_of _ (by decide +kernel)) ggX8_exchange_X8_isWire
set_option maxRecDepth 20000 in
theorem ggX8_exchange_X8_swap : GoodIn wsX8_exchange wsX8_swap := goodIn_r _ [16, 2, 17, 18, 19, 20, 21, 22, 23, 24, 25, 26, 27, 28, 29, 30, 31, 32, 33, 34, 35, 36, 37, 38, 39, 40, 41, 42, 43, 44, 45] (by decide +kernel) (by decide +kernel)
set_option maxRecDepth 20000 in
theorem gX8_exchange_X8_swap : GoodIn wsX8_exchange (wsV RX8 109 RX8 yX8_swap wsX8_swap) := goodIn_app (goodIn_of _ (by decide +kernel)) ggX8_exchange_X8_swap
theorem dX8_exchange_0 : decode cX8_exchange 0 = .ok (.aload_n 0, 1) := by decide +kernel
theorem dX8_exchange_1 : decode cX8_exchange 1 = .ok (.iload_n 1, 1) := by decide +kernel
theorem dX8_exchange_2 : decode cX8_exchange 2 = .ok (.invokestatic 102, 3) := by decide +kernel
theorem dX8_exchange_5 : decode cX8_exchange 5 = .ok (.ifCond .eq 8, 3) := by decide +kernel
theorem dX8_exchange_8 : decode cX8_exchange 8 = .ok (.iload_n 2, 1) := by decide +kernel
theorem dX8_exchange_9 : decode cX8_exchange 9 = .ok (.iload_n 3, 1) := by decide +kernel
theorem dX8_exchange_10 : decode cX8_exchange 10 = .ok (.if_icmp .ne 7, 3) := by decide +kernel
theorem dX8_exchange_13 : decode cX8_exchange 13 = .ok (.iconst 1, 1) := by decide +kernel
theorem dX8_exchange_14 : decode cX8_exchange 14 = .ok (.goto 22, 3) := by decide +kernel
theorem dX8_exchange_17 : decode cX8_exchange 17 = .ok (.iload_n 2, 1) := by decide +kernel
theorem dX8_exchange_18 : decode cX8_exchange 18 = .ok (.invokestatic 106, 3) := by decide +kernel
theorem dX8_exchange_21 : decode cX8_exchange 21 = .ok (.ifCond .eq 14, 3) := by decide +kernel
theorem dX8_exchange_24 : decode cX8_exchange 24 = .ok (.iload_n 3, 1) := by decide +kernel
theorem dX8_exchange_25 : decode cX8_exchange 25 = .ok (.invokestatic 106, 3) := by decide +kernel
theorem dX8_exchange_28 : decode cX8_exchange 28 = .ok (.ifCond .eq 7, 3) := by decide +kernel
theorem dX8_exchange_31 : decode cX8_exchange 31 = .ok (.iconst 0, 1) := by decide +kernel
theorem dX8_exchange_32 : decode cX8_exchange 32 = .ok (.goto 4, 3) := by decide +kernel
theorem dX8_exchange_35 : decode cX8_exchange 35 = .ok (.iconst 2, 1) := by decide +kernel
theorem dX8_exchange_36 : decode cX8_exchange 36 = .ok (.putfield 44, 3) := by decide +kernel
theorem dX8_exchange_39 : decode cX8_exchange 39 = .ok (.aload_n 0, 1) := by decide +kernel
theorem dX8_exchange_40 : decode cX8_exchange 40 = .ok (.getfield 44, 3) := by decide +kernel
theorem dX8_exchange_43 : decode cX8_exchange 43 = .ok (.ifCond .le 5, 3) := by decide +kernel
theorem dX8_exchange_46 : decode cX8_exchange 46 = .ok (.iconst 0, 1) := by decide +kernel
theorem dX8_exchange_47 : decode cX8_exchange 47 = .ok (.ireturn, 1) := by decide +kernel
theorem dX8_exchange_48 : decode cX8_exchange 48 = .ok (.aload_n 0, 1) := by decide +kernel
theorem dX8_exchange_49 : decode cX8_exchange 49 = .ok (.iload_n 1, 1) := by decide +kernel
theorem dX8_exchange_50 : decode cX8_exchange 50 = .ok (.iload_n 2, 1) := by decide +kernel
theorem dX8_exchange_51 : decode cX8_exchange 51 = .ok (.iload_n 3, 1) := by decide +kernel
theorem dX8_exchange_52 : decode cX8_exchange 52 = .ok (.invokevirtual 109, 3) := by decide +kernel
theorem dX8_exchange_55 : decode cX8_exchange 55 = .ok (.aload_n 0, 1) := by decide +kernel
theorem dX8_exchange_56 : decode cX8_exchange 56 = .ok (.getfield 7, 3) := by decide +kernel
