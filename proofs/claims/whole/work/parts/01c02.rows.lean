theorem dX6_readSecond_58 : decode cX6_readSecond 58 = .ok (.iconst 0, 1) := by decide +kernel
theorem dX6_readSecond_59 : decode cX6_readSecond 59 = .ok (.ireturn, 1) := by decide +kernel
theorem dX6_readSign_0 : decode cX6_readSign 0 = .ok (.aload_n 0, 1) := by decide +kernel
theorem dX6_readSign_1 : decode cX6_readSign 1 = .ok (.iconst 4, 1) := by decide +kernel
theorem dX6_readSign_2 : decode cX6_readSign 2 = .ok (.putfield 22, 3) := by decide +kernel
theorem dX6_readSign_5 : decode cX6_readSign 5 = .ok (.iload_n 1, 1) := by decide +kernel
theorem dX6_readSign_6 : decode cX6_readSign 6 = .ok (.bipush 64, 2) := by decide +kernel
theorem dX6_readSign_8 : decode cX6_readSign 8 = .ok (.if_icmp .ne 7, 3) := by decide +kernel
theorem dX6_readSign_11 : decode cX6_readSign 11 = .ok (.iconst 1, 1) := by decide +kernel
theorem dX6_readSign_12 : decode cX6_readSign 12 = .ok (.goto 4, 3) := by decide +kernel
theorem dX6_readSign_15 : decode cX6_readSign 15 = .ok (.iconst 0, 1) := by decide +kernel
theorem dX6_readSign_16 : decode cX6_readSign 16 = .ok (.ireturn, 1) := by decide +kernel
set_option maxRecDepth 20000 in
theorem ggX6_readPlace_X6_longerNumber : GoodIn wsX6_readPlace wsX6_longerNumber := goodIn_r _ [8] (by decide +kernel) (by decide +kernel)
set_option maxRecDepth 20000 in
theorem gX6_readPlace_X6_longerNumber : GoodIn wsX6_readPlace (va_wsS RX6 86 yX6_longerNumber wsX6_longerNumber) := goodIn_app (goodIn_of _ (by decide +kernel)) ggX6_readPlace_X6_longerNumber
theorem dX6_readPlace_0 : decode cX6_readPlace 0 = .ok (.iload_n 1, 1) := by decide +kernel
theorem dX6_readPlace_1 : decode cX6_readPlace 1 = .ok (.bipush 47, 2) := by decide +kernel
theorem dX6_readPlace_3 : decode cX6_readPlace 3 = .ok (.if_icmp .ne 27, 3) := by decide +kernel
theorem dX6_readPlace_6 : decode cX6_readPlace 6 = .ok (.aload_n 0, 1) := by decide +kernel
theorem dX6_readPlace_7 : decode cX6_readPlace 7 = .ok (.getfield 47, 3) := by decide +kernel
theorem dX6_readPlace_10 : decode cX6_readPlace 10 = .ok (.ifCond .le 20, 3) := by decide +kernel
theorem dX6_readPlace_13 : decode cX6_readPlace 13 = .ok (.aload_n 0, 1) := by decide +kernel
theorem dX6_readPlace_14 : decode cX6_readPlace 14 = .ok (.iconst 5, 1) := by decide +kernel
theorem dX6_readPlace_15 : decode cX6_readPlace 15 = .ok (.putfield 22, 3) := by decide +kernel
theorem dX6_readPlace_18 : decode cX6_readPlace 18 = .ok (.aload_n 0, 1) := by decide +kernel
theorem dX6_readPlace_19 : decode cX6_readPlace 19 = .ok (.iconst 0, 1) := by decide +kernel
theorem dX6_readPlace_20 : decode cX6_readPlace 20 = .ok (.putfield 77, 3) := by decide +kernel
theorem dX6_readPlace_23 : decode cX6_readPlace 23 = .ok (.aload_n 0, 1) := by decide +kernel
theorem dX6_readPlace_24 : decode cX6_readPlace 24 = .ok (.iconst 0, 1) := by decide +kernel
theorem dX6_readPlace_25 : decode cX6_readPlace 25 = .ok (.putfield 50, 3) := by decide +kernel
theorem dX6_readPlace_28 : decode cX6_readPlace 28 = .ok (.iconst 1, 1) := by decide +kernel
theorem dX6_readPlace_29 : decode cX6_readPlace 29 = .ok (.ireturn, 1) := by decide +kernel
theorem dX6_readPlace_30 : decode cX6_readPlace 30 = .ok (.aload_n 0, 1) := by decide +kernel
theorem dX6_readPlace_31 : decode cX6_readPlace 31 = .ok (.aload_n 0, 1) := by decide +kernel
theorem dX6_readPlace_32 : decode cX6_readPlace 32 = .ok (.getfield 47, 3) := by decide +kernel
theorem dX6_readPlace_35 : decode cX6_readPlace 35 = .ok (.iload_n 1, 1) := by decide +kernel
theorem dX6_readPlace_36 : decode cX6_readPlace 36 = .ok (.sipush 998, 3) := by decide +kernel
theorem dX6_readPlace_39 : decode cX6_readPlace 39 = .ok (.invokestatic 86, 3) := by decide +kernel
theorem dX6_readPlace_42 : decode cX6_readPlace 42 = .ok (.putfield 47, 3) := by decide +kernel
theorem dX6_readPlace_45 : decode cX6_readPlace 45 = .ok (.aload_n 0, 1) := by decide +kernel
theorem dX6_readPlace_46 : decode cX6_readPlace 46 = .ok (.getfield 47, 3) := by decide +kernel
theorem dX6_readPlace_49 : decode cX6_readPlace 49 = .ok (.iconst (-1), 1) := by decide +kernel
theorem dX6_readPlace_50 : decode cX6_readPlace 50 = .ok (.if_icmp .eq 7, 3) := by decide +kernel
theorem dX6_readPlace_53 : decode cX6_readPlace 53 = .ok (.iconst 1, 1) := by decide +kernel
theorem dX6_readPlace_54 : decode cX6_readPlace 54 = .ok (.goto 4, 3) := by decide +kernel
theorem dX6_readPlace_57 : decode cX6_readPlace 57 = .ok (.iconst 0, 1) := by decide +kernel
theorem dX6_readPlace_58 : decode cX6_readPlace 58 = .ok (.ireturn, 1) := by decide +kernel
set_option maxRecDepth 20000 in
theorem ggX6_readPeriod_X6_longerNumber : GoodIn wsX6_readPeriod wsX6_longerNumber := goodIn_r _ [6] (by decide +kernel) (by decide +kernel)
set_option maxRecDepth 20000 in
theorem gX6_readPeriod_X6_longerNumber : GoodIn wsX6_readPeriod (va_wsS RX6 86 yX6_longerNumber wsX6_longerNumber) := goodIn_app (goodIn_of _ (by decide +kernel)) ggX6_readPeriod_X6_longerNumber
theorem dX6_readPeriod_0 : decode cX6_readPeriod 0 = .ok (.iload_n 1, 1) := by decide +kernel
theorem dX6_readPeriod_1 : decode cX6_readPeriod 1 = .ok (.bipush 58, 2) := by decide +kernel
theorem dX6_readPeriod_3 : decode cX6_readPeriod 3 = .ok (.if_icmp .ne 18, 3) := by decide +kernel
theorem dX6_readPeriod_6 : decode cX6_readPeriod 6 = .ok (.aload_n 0, 1) := by decide +kernel
theorem dX6_readPeriod_7 : decode cX6_readPeriod 7 = .ok (.getfield 77, 3) := by decide +kernel
theorem dX6_readPeriod_10 : decode cX6_readPeriod 10 = .ok (.ifCond .le 11, 3) := by decide +kernel
theorem dX6_readPeriod_13 : decode cX6_readPeriod 13 = .ok (.aload_n 0, 1) := by decide +kernel
theorem dX6_readPeriod_14 : decode cX6_readPeriod 14 = .ok (.bipush 6, 2) := by decide +kernel
theorem dX6_readPeriod_16 : decode cX6_readPeriod 16 = .ok (.putfield 22, 3) := by decide +kernel
theorem dX6_readPeriod_19 : decode cX6_readPeriod 19 = .ok (.iconst 1, 1) := by decide +kernel
theorem dX6_readPeriod_20 : decode cX6_readPeriod 20 = .ok (.ireturn, 1) := by decide +kernel
theorem dX6_readPeriod_21 : decode cX6_readPeriod 21 = .ok (.aload_n 0, 1) := by decide +kernel
theorem dX6_readPeriod_22 : decode cX6_readPeriod 22 = .ok (.aload_n 0, 1) := by decide +kernel
theorem dX6_readPeriod_23 : decode cX6_readPeriod 23 = .ok (.getfield 77, 3) := by decide +kernel
theorem dX6_readPeriod_26 : decode cX6_readPeriod 26 = .ok (.iload_n 1, 1) := by decide +kernel
theorem dX6_readPeriod_27 : decode cX6_readPeriod 27 = .ok (.bipush 32, 2) := by decide +kernel
theorem dX6_readPeriod_29 : decode cX6_readPeriod 29 = .ok (.invokestatic 86, 3) := by decide +kernel
theorem dX6_readPeriod_32 : decode cX6_readPeriod 32 = .ok (.putfield 77, 3) := by decide +kernel
theorem dX6_readPeriod_35 : decode cX6_readPeriod 35 = .ok (.aload_n 0, 1) := by decide +kernel
theorem dX6_readPeriod_36 : decode cX6_readPeriod 36 = .ok (.getfield 77, 3) := by decide +kernel
theorem dX6_readPeriod_39 : decode cX6_readPeriod 39 = .ok (.iconst (-1), 1) := by decide +kernel
theorem dX6_readPeriod_40 : decode cX6_readPeriod 40 = .ok (.if_icmp .eq 7, 3) := by decide +kernel
theorem dX6_readPeriod_43 : decode cX6_readPeriod 43 = .ok (.iconst 1, 1) := by decide +kernel
theorem dX6_readPeriod_44 : decode cX6_readPeriod 44 = .ok (.goto 4, 3) := by decide +kernel
theorem dX6_readPeriod_47 : decode cX6_readPeriod 47 = .ok (.iconst 0, 1) := by decide +kernel
theorem dX6_readPeriod_48 : decode cX6_readPeriod 48 = .ok (.ireturn, 1) := by decide +kernel
set_option maxRecDepth 20000 in
theorem ggX6_readDuration_X6_longerNumber : GoodIn wsX6_readDuration wsX6_longerNumber := goodIn_r _ [6] (by decide +kernel) (by decide +kernel)
set_option maxRecDepth 20000 in
theorem gX6_readDuration_X6_longerNumber : GoodIn wsX6_readDuration (va_wsS RX6 86 yX6_longerNumber wsX6_longerNumber) := goodIn_app (goodIn_of _ (by decide +kernel)) ggX6_readDuration_X6_longerNumber
theorem dX6_readDuration_0 : decode cX6_readDuration 0 = .ok (.aload_n 0, 1) := by decide +kernel
theorem dX6_readDuration_1 : decode cX6_readDuration 1 = .ok (.aload_n 0, 1) := by decide +kernel
theorem dX6_readDuration_2 : decode cX6_readDuration 2 = .ok (.getfield 50, 3) := by decide +kernel
theorem dX6_readDuration_5 : decode cX6_readDuration 5 = .ok (.iload_n 1, 1) := by decide +kernel
theorem dX6_readDuration_6 : decode cX6_readDuration 6 = .ok (.aload_n 0, 1) := by decide +kernel
theorem dX6_readDuration_7 : decode cX6_readDuration 7 = .ok (.getfield 77, 3) := by decide +kernel
theorem dX6_readDuration_10 : decode cX6_readDuration 10 = .ok (.invokestatic 86, 3) := by decide +kernel
theorem dX6_readDuration_13 : decode cX6_readDuration 13 = .ok (.putfield 50, 3) := by decide +kernel
theorem dX6_readDuration_16 : decode cX6_readDuration 16 = .ok (.aload_n 0, 1) := by decide +kernel
theorem dX6_readDuration_17 : decode cX6_readDuration 17 = .ok (.getfield 50, 3) := by decide +kernel
theorem dX6_readDuration_20 : decode cX6_readDuration 20 = .ok (.iconst (-1), 1) := by decide +kernel
theorem dX6_readDuration_21 : decode cX6_readDuration 21 = .ok (.if_icmp .eq 7, 3) := by decide +kernel
theorem dX6_readDuration_24 : decode cX6_readDuration 24 = .ok (.iconst 1, 1) := by decide +kernel
theorem dX6_readDuration_25 : decode cX6_readDuration 25 = .ok (.goto 4, 3) := by decide +kernel
theorem dX6_readDuration_28 : decode cX6_readDuration 28 = .ok (.iconst 0, 1) := by decide +kernel
theorem dX6_readDuration_29 : decode cX6_readDuration 29 = .ok (.ireturn, 1) := by decide +kernel
theorem dX6_longerNumber_0 : decode cX6_longerNumber 0 = .ok (.iload_n 1, 1) := by decide +kernel
theorem dX6_longerNumber_1 : decode cX6_longerNumber 1 = .ok (.bipush 48, 2) := by decide +kernel
theorem dX6_longerNumber_3 : decode cX6_longerNumber 3 = .ok (.if_icmp .lt 9, 3) := by decide +kernel
theorem dX6_longerNumber_6 : decode cX6_longerNumber 6 = .ok (.iload_n 1, 1) := by decide +kernel
theorem dX6_longerNumber_7 : decode cX6_longerNumber 7 = .ok (.bipush 57, 2) := by decide +kernel
theorem dX6_longerNumber_9 : decode cX6_longerNumber 9 = .ok (.if_icmp .le 5, 3) := by decide +kernel
theorem dX6_longerNumber_12 : decode cX6_longerNumber 12 = .ok (.iconst (-1), 1) := by decide +kernel
theorem dX6_longerNumber_13 : decode cX6_longerNumber 13 = .ok (.ireturn, 1) := by decide +kernel
theorem dX6_longerNumber_14 : decode cX6_longerNumber 14 = .ok (.bipush 10, 2) := by decide +kernel
theorem dX6_longerNumber_16 : decode cX6_longerNumber 16 = .ok (.iload_n 0, 1) := by decide +kernel
theorem dX6_longerNumber_17 : decode cX6_longerNumber 17 = .ok (.imul, 1) := by decide +kernel
theorem dX6_longerNumber_18 : decode cX6_longerNumber 18 = .ok (.iload_n 1, 1) := by decide +kernel
theorem dX6_longerNumber_19 : decode cX6_longerNumber 19 = .ok (.iadd, 1) := by decide +kernel
theorem dX6_longerNumber_20 : decode cX6_longerNumber 20 = .ok (.bipush 48, 2) := by decide +kernel
theorem dX6_longerNumber_22 : decode cX6_longerNumber 22 = .ok (.isub, 1) := by decide +kernel
theorem dX6_longerNumber_23 : decode cX6_longerNumber 23 = .ok (.istore_n 3, 1) := by decide +kernel
theorem dX6_longerNumber_24 : decode cX6_longerNumber 24 = .ok (.iload_n 3, 1) := by decide +kernel
theorem dX6_longerNumber_25 : decode cX6_longerNumber 25 = .ok (.iconst 1, 1) := by decide +kernel
theorem dX6_longerNumber_26 : decode cX6_longerNumber 26 = .ok (.if_icmp .lt 12, 3) := by decide +kernel
theorem dX6_longerNumber_29 : decode cX6_longerNumber 29 = .ok (.iload_n 3, 1) := by decide +kernel
theorem dX6_longerNumber_30 : decode cX6_longerNumber 30 = .ok (.iload_n 2, 1) := by decide +kernel
theorem dX6_longerNumber_31 : decode cX6_longerNumber 31 = .ok (.if_icmp .gt 7, 3) := by decide +kernel
theorem dX6_longerNumber_34 : decode cX6_longerNumber 34 = .ok (.iload_n 3, 1) := by decide +kernel
theorem dX6_longerNumber_35 : decode cX6_longerNumber 35 = .ok (.goto 4, 3) := by decide +kernel
theorem dX6_longerNumber_38 : decode cX6_longerNumber 38 = .ok (.iconst (-1), 1) := by decide +kernel
theorem dX6_longerNumber_39 : decode cX6_longerNumber 39 = .ok (.ireturn, 1) := by decide +kernel
set_option maxRecDepth 20000 in
theorem ggX7_init_X0_init : GoodIn wsX7_init wsX0_init := goodIn_r _ [25, 26, 2, 3, 27, 28, 29, 30, 31, 32, 33, 34, 35, 36, 37, 38, 39, 40, 41, 42, 43, 44, 45, 46, 47, 48, 49, 50, 51, 52, 53, 54, 55, 56, 57, 58, 59, 60, 102, 103, 104, 105, 106, 107, 108, 139, 140, 141, 142] (by decide +kernel) (by decide +kernel)
set_option maxRecDepth 20000 in
theorem gX7_init_X0_init_n9 : GoodIn wsX7_init (wsX0_init) := ggX7_init_X0_init
set_option maxRecDepth 20000 in
theorem ggX7_init_X5_init : GoodIn wsX7_init wsX5_init := goodIn_r _ [62, 63, 2, 3, 27, 64, 65, 66, 34, 35, 67, 68, 69, 70, 53, 54, 55, 56, 57, 58, 59, 60, 114, 115, 116, 117, 118, 119, 120, 121, 142] (by decide +kernel) (by decide +kernel)
set_option maxRecDepth 20000 in
theorem gX7_init_X5_init_n18 : GoodIn wsX7_init (wsX5_init) := ggX7_init_X5_init
set_option maxRecDepth 20000 in
theorem ggX7_init_X1_init : GoodIn wsX7_init wsX1_init := goodIn_r _ [72, 73, 2, 3, 27, 74, 75, 76, 77, 122, 123, 124, 125, 126] (by decide +kernel) (by decide +kernel)
set_option maxRecDepth 20000 in
theorem gX7_init_X1_init_n25 : GoodIn wsX7_init (wsX1_init) := ggX7_init_X1_init
set_option maxRecDepth 20000 in
theorem ggX7_init_X4_init : GoodIn wsX7_init wsX4_init := goodIn_r _ [79, 80, 2, 3, 81, 82, 127, 128] (by decide +kernel) (by decide +kernel)
set_option maxRecDepth 20000 in
theorem gX7_init_X4_init_n32 : GoodIn wsX7_init (wsX4_init) := ggX7_init_X4_init
set_option maxRecDepth 20000 in
theorem ggX7_init_X6_init : GoodIn wsX7_init wsX6_init := goodIn_r _ [84, 85, 2, 3, 27, 86, 129, 130, 131, 132, 133, 134, 135, 136, 137, 138] (by decide +kernel) (by decide +kernel)
set_option maxRecDepth 20000 in
theorem gX7_init_X6_init_n39 : GoodIn wsX7_init (wsX6_init) := ggX7_init_X6_init
set_option maxRecDepth 20000 in
theorem ggX7_init_X0_lay : GoodIn wsX7_init wsX0_lay := goodIn_r _ [90, 91, 92, 93, 94, 28, 32, 95, 96, 97, 31, 98, 99, 100, 41, 101, 102, 103, 104, 105, 106, 107, 108, 139, 140, 141] (by decide +kernel) (by decide +kernel)
set_option maxRecDepth 20000 in
theorem gX7_init_X0_lay : GoodIn wsX7_init (wsV RX7 44 RX0 yX0_lay wsX0_lay) := goodIn_app (goodIn_of _ (by decide +kernel)) ggX7_init_X0_lay
theorem dX7_init_0 : decode cX7_init 0 = .ok (.aload_n 0, 1) := by decide +kernel
theorem dX7_init_1 : decode cX7_init 1 = .ok (.invokespecial 1, 3) := by decide +kernel
theorem dX7_init_4 : decode cX7_init 4 = .ok (.aload_n 0, 1) := by decide +kernel
theorem dX7_init_5 : decode cX7_init 5 = .ok (.new 7, 3) := by decide +kernel
theorem dX7_init_8 : decode cX7_init 8 = .ok (.dup, 1) := by decide +kernel
theorem dX7_init_9 : decode cX7_init 9 = .ok (.invokespecial 9, 3) := by decide +kernel
theorem dX7_init_12 : decode cX7_init 12 = .ok (.putfield 10, 3) := by decide +kernel
theorem dX7_init_15 : decode cX7_init 15 = .ok (.aload_n 0, 1) := by decide +kernel
theorem dX7_init_16 : decode cX7_init 16 = .ok (.new 16, 3) := by decide +kernel
theorem dX7_init_19 : decode cX7_init 19 = .ok (.dup, 1) := by decide +kernel
theorem dX7_init_20 : decode cX7_init 20 = .ok (.invokespecial 18, 3) := by decide +kernel
theorem dX7_init_23 : decode cX7_init 23 = .ok (.putfield 19, 3) := by decide +kernel
theorem dX7_init_26 : decode cX7_init 26 = .ok (.aload_n 0, 1) := by decide +kernel
theorem dX7_init_27 : decode cX7_init 27 = .ok (.new 23, 3) := by decide +kernel
theorem dX7_init_30 : decode cX7_init 30 = .ok (.dup, 1) := by decide +kernel
theorem dX7_init_31 : decode cX7_init 31 = .ok (.invokespecial 25, 3) := by decide +kernel
theorem dX7_init_34 : decode cX7_init 34 = .ok (.putfield 26, 3) := by decide +kernel
theorem dX7_init_37 : decode cX7_init 37 = .ok (.aload_n 0, 1) := by decide +kernel
theorem dX7_init_38 : decode cX7_init 38 = .ok (.new 30, 3) := by decide +kernel
theorem dX7_init_41 : decode cX7_init 41 = .ok (.dup, 1) := by decide +kernel
theorem dX7_init_42 : decode cX7_init 42 = .ok (.invokespecial 32, 3) := by decide +kernel
theorem dX7_init_45 : decode cX7_init 45 = .ok (.putfield 33, 3) := by decide +kernel
theorem dX7_init_48 : decode cX7_init 48 = .ok (.aload_n 0, 1) := by decide +kernel
theorem dX7_init_49 : decode cX7_init 49 = .ok (.new 37, 3) := by decide +kernel
theorem dX7_init_52 : decode cX7_init 52 = .ok (.dup, 1) := by decide +kernel
theorem dX7_init_53 : decode cX7_init 53 = .ok (.invokespecial 39, 3) := by decide +kernel
theorem dX7_init_56 : decode cX7_init 56 = .ok (.putfield 40, 3) := by decide +kernel
theorem dX7_init_59 : decode cX7_init 59 = .ok (.aload_n 0, 1) := by decide +kernel
theorem dX7_init_60 : decode cX7_init 60 = .ok (.getfield 10, 3) := by decide +kernel
theorem dX7_init_63 : decode cX7_init 63 = .ok (.bipush 100, 2) := by decide +kernel
theorem dX7_init_65 : decode cX7_init 65 = .ok (.bipush 66, 2) := by decide +kernel
theorem dX7_init_67 : decode cX7_init 67 = .ok (.invokevirtual 44, 3) := by decide +kernel
theorem dX7_init_70 : decode cX7_init 70 = .ok (.return_, 1) := by decide +kernel
set_option maxRecDepth 20000 in
theorem ggX7_begin_X7_needRange : GoodIn wsX7_begin wsX7_needRange := goodIn_ca (goodIn_r _ [6, 7, 8] (by decide +kernel) (by decide +kernel)) (goodIn_sub (fun _ h => List.mem_cons_of_mem _ (List.mem_append_right _ h)) (by decide +kernel))
set_option maxRecDepth 20000 in
theorem gX7_begin_X7_needRange : GoodIn wsX7_begin (va_wsS RX7 48 yX7_needRange wsX7_needRange) := goodIn_app (goodIn_of _ (by decide +kernel)) ggX7_begin_X7_needRange
set_option maxRecDepth 20000 in
theorem ggX7_begin_X0_lay : GoodIn wsX7_begin wsX0_lay := goodIn_r _ [13, 14, 15, 16, 17, 18, 19, 20, 21, 22, 23, 24, 25, 26, 27, 28, 41, 42, 43, 44, 45, 46, 47, 48, 49, 50] (by decide +kernel) (by decide +kernel)
set_option maxRecDepth 20000 in
theorem gX7_begin_X0_lay : GoodIn wsX7_begin (wsV RX7 44 RX0 yX0_lay wsX0_lay) := goodIn_app (goodIn_of _ (by decide +kernel)) ggX7_begin_X0_lay
set_option maxRecDepth 20000 in
theorem ggX7_begin_X4_forget : GoodIn wsX7_begin wsX4_forget := goodIn_r _ [33, 34, 35, 51, 52] (by decide +kernel) (by decide +kernel)
set_option maxRecDepth 20000 in
theorem gX7_begin_X4_forget : GoodIn wsX7_begin (wsV RX7 56 RX4 yX4_forget wsX4_forget) := goodIn_app (goodIn_of _ (by decide +kernel)) ggX7_begin_X4_forget
theorem dX7_begin_0 : decode cX7_begin 0 = .ok (.iload_n 1, 1) := by decide +kernel
theorem dX7_begin_1 : decode cX7_begin 1 = .ok (.iconst 2, 1) := by decide +kernel
theorem dX7_begin_2 : decode cX7_begin 2 = .ok (.sipush 999, 3) := by decide +kernel
theorem dX7_begin_5 : decode cX7_begin 5 = .ok (.invokestatic 48, 3) := by decide +kernel
theorem dX7_begin_8 : decode cX7_begin 8 = .ok (.iload_n 2, 1) := by decide +kernel
theorem dX7_begin_9 : decode cX7_begin 9 = .ok (.bipush 50, 2) := by decide +kernel
theorem dX7_begin_11 : decode cX7_begin 11 = .ok (.bipush 99, 2) := by decide +kernel
theorem dX7_begin_13 : decode cX7_begin 13 = .ok (.invokestatic 48, 3) := by decide +kernel
theorem dX7_begin_16 : decode cX7_begin 16 = .ok (.aload_n 0, 1) := by decide +kernel
theorem dX7_begin_17 : decode cX7_begin 17 = .ok (.getfield 10, 3) := by decide +kernel
theorem dX7_begin_20 : decode cX7_begin 20 = .ok (.getfield 52, 3) := by decide +kernel
theorem dX7_begin_23 : decode cX7_begin 23 = .ok (.istore_n 3, 1) := by decide +kernel
theorem dX7_begin_24 : decode cX7_begin 24 = .ok (.aload_n 0, 1) := by decide +kernel
theorem dX7_begin_25 : decode cX7_begin 25 = .ok (.getfield 10, 3) := by decide +kernel
theorem dX7_begin_28 : decode cX7_begin 28 = .ok (.iload_n 1, 1) := by decide +kernel
theorem dX7_begin_29 : decode cX7_begin 29 = .ok (.iload_n 2, 1) := by decide +kernel
theorem dX7_begin_30 : decode cX7_begin 30 = .ok (.invokevirtual 44, 3) := by decide +kernel
theorem dX7_begin_33 : decode cX7_begin 33 = .ok (.aload_n 0, 1) := by decide +kernel
theorem dX7_begin_34 : decode cX7_begin 34 = .ok (.getfield 33, 3) := by decide +kernel
theorem dX7_begin_37 : decode cX7_begin 37 = .ok (.invokevirtual 56, 3) := by decide +kernel
theorem dX7_begin_40 : decode cX7_begin 40 = .ok (.iload_n 3, 1) := by decide +kernel
theorem dX7_begin_41 : decode cX7_begin 41 = .ok (.ireturn, 1) := by decide +kernel
set_option maxRecDepth 20000 in
theorem ggX7_exchange_X7_needEnd : GoodIn wsX7_exchange wsX7_needEnd := goodIn_ca (goodIn_r _ [5, 6, 7, 4, 8, 9, 10] (by decide +kernel) (by decide +kernel)) (goodIn_sub (fun _ h => List.mem_cons_of_mem _ (List.mem_append_left _ (List.mem_append_right _ h))) (by decide +kernel))
set_option maxRecDepth 20000 in
theorem gX7_exchange_X7_needEnd : GoodIn wsX7_exchange (va_wsS RX7 59 yX7_needEnd wsX7_needEnd) := goodIn_app (goodIn_of _ (by decide +kernel)) ggX7_exchange_X7_needEnd
set_option maxRecDepth 20000 in
theorem ggX7_exchange_X7_needDifferent : GoodIn wsX7_exchange wsX7_needDifferent := goodIn_ca (goodIn_r _ [13, 9, 10] (by decide +kernel) (by decide +kernel)) (goodIn_sub (fun _ h => List.mem_cons_of_mem _ (List.mem_append_left _ (List.mem_append_right _ h))) (by decide +kernel))
set_option maxRecDepth 20000 in
theorem gX7_exchange_X7_needDifferent : GoodIn wsX7_exchange (va_wsS RX7 63 yX7_needDifferent wsX7_needDifferent) := goodIn_app (goodIn_of _ (by decide +kernel)) ggX7_exchange_X7_needDifferent
set_option maxRecDepth 20000 in
theorem ggX7_exchange_X7_needIndex : GoodIn wsX7_exchange wsX7_needIndex := goodIn_ca (goodIn_r _ [16, 17, 18] (by decide +kernel) (by decide +kernel)) (goodIn_sub (fun _ h => List.mem_cons_of_mem _ (List.mem_append_right _ h)) (by decide +kernel))
set_option maxRecDepth 20000 in
theorem gX7_exchange_X7_needIndex : GoodIn wsX7_exchange (va_wsS RX7 66 yX7_needIndex wsX7_needIndex) := goodIn_app (goodIn_of _ (by decide +kernel)) ggX7_exchange_X7_needIndex
set_option maxRecDepth 20000 in
theorem ggX7_exchange_X0_swapWires : GoodIn wsX7_exchange wsX0_swapWires := goodIn_r _ [23, 24, 34, 35, 36, 37, 38, 39, 40] (by decide +kernel) (by decide +kernel)
set_option maxRecDepth 20000 in
theorem gX7_exchange_X0_swapWires : GoodIn wsX7_exchange (wsV RX7 69 RX0 yX0_swapWires wsX0_swapWires) := goodIn_app (goodIn_of _ (by decide +kernel)) ggX7_exchange_X0_swapWires
set_option maxRecDepth 20000 in
theorem ggX7_exchange_X0_wireAt : GoodIn wsX7_exchange wsX0_wireAt := goodIn_r _ [28, 24, 34, 35, 36, 37, 38, 39, 40] (by decide +kernel) (by decide +kernel)
set_option maxRecDepth 20000 in
theorem gX7_exchange_X0_wireAt : GoodIn wsX7_exchange (wsV RX7 72 RX0 yX0_wireAt wsX0_wireAt) := goodIn_app (goodIn_of _ (by decide +kernel)) ggX7_exchange_X0_wireAt
theorem dX7_exchange_0 : decode cX7_exchange 0 = .ok (.iload_n 1, 1) := by decide +kernel
theorem dX7_exchange_1 : decode cX7_exchange 1 = .ok (.invokestatic 59, 3) := by decide +kernel
theorem dX7_exchange_4 : decode cX7_exchange 4 = .ok (.iload_n 2, 1) := by decide +kernel
theorem dX7_exchange_5 : decode cX7_exchange 5 = .ok (.iload_n 3, 1) := by decide +kernel
theorem dX7_exchange_6 : decode cX7_exchange 6 = .ok (.invokestatic 63, 3) := by decide +kernel
theorem dX7_exchange_9 : decode cX7_exchange 9 = .ok (.iload_n 2, 1) := by decide +kernel
theorem dX7_exchange_10 : decode cX7_exchange 10 = .ok (.bipush 8, 2) := by decide +kernel
theorem dX7_exchange_12 : decode cX7_exchange 12 = .ok (.invokestatic 66, 3) := by decide +kernel
theorem dX7_exchange_15 : decode cX7_exchange 15 = .ok (.iload_n 3, 1) := by decide +kernel
theorem dX7_exchange_16 : decode cX7_exchange 16 = .ok (.bipush 8, 2) := by decide +kernel
theorem dX7_exchange_18 : decode cX7_exchange 18 = .ok (.invokestatic 66, 3) := by decide +kernel
theorem dX7_exchange_21 : decode cX7_exchange 21 = .ok (.aload_n 0, 1) := by decide +kernel
theorem dX7_exchange_22 : decode cX7_exchange 22 = .ok (.getfield 10, 3) := by decide +kernel
theorem dX7_exchange_25 : decode cX7_exchange 25 = .ok (.iload_n 1, 1) := by decide +kernel
theorem dX7_exchange_26 : decode cX7_exchange 26 = .ok (.iload_n 2, 1) := by decide +kernel
theorem dX7_exchange_27 : decode cX7_exchange 27 = .ok (.iload_n 3, 1) := by decide +kernel
theorem dX7_exchange_28 : decode cX7_exchange 28 = .ok (.invokevirtual 69, 3) := by decide +kernel
theorem dX7_exchange_31 : decode cX7_exchange 31 = .ok (.aload_n 0, 1) := by decide +kernel
theorem dX7_exchange_32 : decode cX7_exchange 32 = .ok (.getfield 10, 3) := by decide +kernel
theorem dX7_exchange_35 : decode cX7_exchange 35 = .ok (.iload_n 1, 1) := by decide +kernel
theorem dX7_exchange_36 : decode cX7_exchange 36 = .ok (.iload_n 2, 1) := by decide +kernel
theorem dX7_exchange_37 : decode cX7_exchange 37 = .ok (.invokevirtual 72, 3) := by decide +kernel
theorem dX7_exchange_40 : decode cX7_exchange 40 = .ok (.ireturn, 1) := by decide +kernel
set_option maxRecDepth 20000 in
theorem ggX7_cut_X7_needIndex : GoodIn wsX7_cut wsX7_needIndex := goodIn_ca (goodIn_r _ [8, 9, 10] (by decide +kernel) (by decide +kernel)) (goodIn_sub (fun _ h => List.mem_cons_of_mem _ (List.mem_append_left _ (List.mem_append_left _ (List.mem_append_right _ h)))) (by decide +kernel))
set_option maxRecDepth 20000 in
theorem gX7_cut_X7_needIndex : GoodIn wsX7_cut (va_wsS RX7 66 yX7_needIndex wsX7_needIndex) := goodIn_app (goodIn_of _ (by decide +kernel)) ggX7_cut_X7_needIndex
set_option maxRecDepth 20000 in
theorem ggX7_cut_X7_needFaultRanges : GoodIn wsX7_cut wsX7_needFaultRanges := goodIn_ca (goodIn_r _ [14, 1, 15, 16, 7, 17, 18, 19, 104, 105, 106, 107, 108, 114, 115, 116, 117, 118, 119, 120] (by decide +kernel) (by decide +kernel)) (goodIn_sub (fun _ h => List.mem_cons_of_mem _ (List.mem_append_left _ (List.mem_append_right _ h))) (by decide +kernel))
set_option maxRecDepth 20000 in
theorem gX7_cut_X7_needFaultRanges : GoodIn wsX7_cut (wsV RX7 76 RX7 yX7_needFaultRanges wsX7_needFaultRanges) := goodIn_app (goodIn_of _ (by decide +kernel)) ggX7_cut_X7_needFaultRanges
set_option maxRecDepth 20000 in
theorem ggX7_cut_X7_needRoomForFault : GoodIn wsX7_cut wsX7_needRoomForFault := goodIn_ca (goodIn_r _ [23, 24, 25, 1, 26, 27, 28, 29, 30, 31, 104, 105, 106, 107, 108, 114, 115, 116, 117, 118, 119, 120, 121, 122, 123] (by decide +kernel) (by decide +kernel)) (goodIn_sub (fun _ h => List.mem_cons_of_mem _ (List.mem_append_right _ h)) (by decide +kernel))
set_option maxRecDepth 20000 in
theorem gX7_cut_X7_needRoomForFault : GoodIn wsX7_cut (wsV RX7 79 RX7 yX7_needRoomForFault wsX7_needRoomForFault) := goodIn_app (goodIn_of _ (by decide +kernel)) ggX7_cut_X7_needRoomForFault
set_option maxRecDepth 20000 in
theorem ggX7_cut_X2_init : GoodIn wsX7_cut wsX2_init := goodIn_r _ [34, 35, 36, 37, 38, 39, 40, 41, 42, 109, 110, 111, 112, 113] (by decide +kernel) (by decide +kernel)
set_option maxRecDepth 20000 in
theorem gX7_cut_X2_init : GoodIn wsX7_cut (wsX2_init) := ggX7_cut_X2_init
set_option maxRecDepth 20000 in
theorem ggX7_cut_X0_addFault : GoodIn wsX7_cut wsX0_addFault := goodIn_r _ [47, 48, 49, 50, 51, 29, 52, 53, 54, 55, 31, 56, 57, 58, 59, 60, 61, 62, 63, 64, 65, 66, 67, 68, 69, 70, 71, 72, 73, 74, 75, 76, 77, 78, 79, 80, 81, 82, 83, 84, 85, 86, 87, 88, 89, 90, 91, 92, 93, 94, 95, 96, 97, 98, 99, 100, 101, 102, 103, 27, 28, 30, 114, 115, 116, 117, 118, 119, 120, 121, 122, 123] (by decide +kernel) (by decide +kernel)
set_option maxRecDepth 20000 in
theorem gX7_cut_X0_addFault : GoodIn wsX7_cut (wsV RX7 87 RX0 yX0_addFault wsX0_addFault) := goodIn_app (goodIn_of _ (by decide +kernel)) ggX7_cut_X0_addFault
theorem dX7_cut_0 : decode cX7_cut 0 = .ok (.iload_n 1, 1) := by decide +kernel
theorem dX7_cut_1 : decode cX7_cut 1 = .ok (.bipush 8, 2) := by decide +kernel
theorem dX7_cut_3 : decode cX7_cut 3 = .ok (.invokestatic 66, 3) := by decide +kernel
theorem dX7_cut_6 : decode cX7_cut 6 = .ok (.aload_n 0, 1) := by decide +kernel
theorem dX7_cut_7 : decode cX7_cut 7 = .ok (.iload_n 2, 1) := by decide +kernel
theorem dX7_cut_8 : decode cX7_cut 8 = .ok (.iload_n 3, 1) := by decide +kernel
theorem dX7_cut_9 : decode cX7_cut 9 = .ok (.iload 4, 2) := by decide +kernel
theorem dX7_cut_11 : decode cX7_cut 11 = .ok (.invokevirtual 76, 3) := by decide +kernel
theorem dX7_cut_14 : decode cX7_cut 14 = .ok (.aload_n 0, 1) := by decide +kernel
theorem dX7_cut_15 : decode cX7_cut 15 = .ok (.invokevirtual 79, 3) := by decide +kernel
theorem dX7_cut_18 : decode cX7_cut 18 = .ok (.aload_n 0, 1) := by decide +kernel
theorem dX7_cut_19 : decode cX7_cut 19 = .ok (.getfield 10, 3) := by decide +kernel
theorem dX7_cut_22 : decode cX7_cut 22 = .ok (.new 82, 3) := by decide +kernel
theorem dX7_cut_25 : decode cX7_cut 25 = .ok (.dup, 1) := by decide +kernel
theorem dX7_cut_26 : decode cX7_cut 26 = .ok (.iload_n 1, 1) := by decide +kernel
theorem dX7_cut_27 : decode cX7_cut 27 = .ok (.iconst (-1), 1) := by decide +kernel
theorem dX7_cut_28 : decode cX7_cut 28 = .ok (.iload_n 2, 1) := by decide +kernel
theorem dX7_cut_29 : decode cX7_cut 29 = .ok (.iload_n 3, 1) := by decide +kernel
theorem dX7_cut_30 : decode cX7_cut 30 = .ok (.iload 4, 2) := by decide +kernel
theorem dX7_cut_32 : decode cX7_cut 32 = .ok (.invokespecial 84, 3) := by decide +kernel
theorem dX7_cut_35 : decode cX7_cut 35 = .ok (.invokevirtual 87, 3) := by decide +kernel
theorem dX7_cut_38 : decode cX7_cut 38 = .ok (.ireturn, 1) := by decide +kernel
set_option maxRecDepth 20000 in
theorem ggX7_connect_X7_needIndex : GoodIn wsX7_connect wsX7_needIndex := goodIn_ca (goodIn_r _ [8, 9, 10] (by decide +kernel) (by decide +kernel)) (goodIn_sub (fun _ h => List.mem_cons_of_mem _ (List.mem_append_left _ (List.mem_append_left _ (List.mem_append_right _ h)))) (by decide +kernel))
set_option maxRecDepth 20000 in
theorem gX7_connect_X7_needIndex : GoodIn wsX7_connect (va_wsS RX7 66 yX7_needIndex wsX7_needIndex) := goodIn_app (goodIn_of _ (by decide +kernel)) ggX7_connect_X7_needIndex
set_option maxRecDepth 20000 in
theorem ggX7_connect_X7_needDifferent : GoodIn wsX7_connect wsX7_needDifferent := goodIn_ca (goodIn_r _ [13, 14, 15] (by decide +kernel) (by decide +kernel)) (goodIn_sub (fun _ h => List.mem_cons_of_mem _ (List.mem_append_left _ (List.mem_append_right _ h))) (by decide +kernel))
set_option maxRecDepth 20000 in
theorem gX7_connect_X7_needDifferent : GoodIn wsX7_connect (va_wsS RX7 63 yX7_needDifferent wsX7_needDifferent) := goodIn_app (goodIn_of _ (by decide +kernel)) ggX7_connect_X7_needDifferent
set_option maxRecDepth 20000 in
theorem ggX7_connect_X7_needFaultRanges : GoodIn wsX7_connect wsX7_needFaultRanges := goodIn_ca (goodIn_r _ [19, 1, 20, 21, 7, 22, 14, 15, 107, 108, 109, 110, 111, 117, 118, 119, 120, 121, 122, 123] (by decide +kernel) (by decide +kernel)) (goodIn_sub (fun _ h => List.mem_cons_of_mem _ (List.mem_append_left _ (List.mem_append_right _ h))) (by decide +kernel))
set_option maxRecDepth 20000 in
theorem gX7_connect_X7_needFaultRanges : GoodIn wsX7_connect (wsV RX7 76 RX7 yX7_needFaultRanges wsX7_needFaultRanges) := goodIn_app (goodIn_of _ (by decide +kernel)) ggX7_connect_X7_needFaultRanges
set_option maxRecDepth 20000 in
theorem ggX7_connect_X7_needRoomForFault : GoodIn wsX7_connect wsX7_needRoomForFault := goodIn_ca (goodIn_r _ [26, 27, 28, 1, 29, 30, 31, 32, 33, 34, 107, 108, 109, 110, 111, 117, 118, 119, 120, 121, 122, 123, 124, 125, 126] (by decide +kernel) (by decide +kernel)) (goodIn_sub (fun _ h => List.mem_cons_of_mem _ (List.mem_append_right _ h)) (by decide +kernel))
set_option maxRecDepth 20000 in
theorem gX7_connect_X7_needRoomForFault : GoodIn wsX7_connect (wsV RX7 79 RX7 yX7_needRoomForFault wsX7_needRoomForFault) := goodIn_app (goodIn_of _ (by decide +kernel)) ggX7_connect_X7_needRoomForFault
set_option maxRecDepth 20000 in
theorem ggX7_connect_X2_init : GoodIn wsX7_connect wsX2_init := goodIn_r _ [37, 38, 39, 40, 41, 42, 43, 44, 45, 112, 113, 114, 115, 116] (by decide +kernel) (by decide +kernel)
set_option maxRecDepth 20000 in
theorem gX7_connect_X2_init : GoodIn wsX7_connect (wsX2_init) := ggX7_connect_X2_init
set_option maxRecDepth 20000 in
theorem ggX7_connect_X0_addFault : GoodIn wsX7_connect wsX0_addFault := goodIn_r _ [50, 51, 52, 53, 54, 32, 55, 56, 57, 58, 34, 59, 60, 61, 62, 63, 64, 65, 66, 67, 68, 69, 70, 71, 72, 73, 74, 75, 76, 77, 78, 79, 80, 81, 82, 83, 84, 85, 86, 87, 88, 89, 90, 91, 92, 93, 94, 95, 96, 97, 98, 99, 100, 101, 102, 103, 104, 105, 106, 30, 31, 33, 117, 118, 119, 120, 121, 122, 123, 124, 125, 126] (by decide +kernel) (by decide +kernel)
set_option maxRecDepth 20000 in
theorem gX7_connect_X0_addFault : GoodIn wsX7_connect (wsV RX7 87 RX0 yX0_addFault wsX0_addFault) := goodIn_app (goodIn_of _ (by decide +kernel)) ggX7_connect_X0_addFault
theorem dX7_connect_0 : decode cX7_connect 0 = .ok (.iload_n 1, 1) := by decide +kernel
theorem dX7_connect_1 : decode cX7_connect 1 = .ok (.bipush 8, 2) := by decide +kernel
theorem dX7_connect_3 : decode cX7_connect 3 = .ok (.invokestatic 66, 3) := by decide +kernel
theorem dX7_connect_6 : decode cX7_connect 6 = .ok (.iload_n 2, 1) := by decide +kernel
theorem dX7_connect_7 : decode cX7_connect 7 = .ok (.bipush 8, 2) := by decide +kernel
theorem dX7_connect_9 : decode cX7_connect 9 = .ok (.invokestatic 66, 3) := by decide +kernel
theorem dX7_connect_12 : decode cX7_connect 12 = .ok (.iload_n 1, 1) := by decide +kernel
theorem dX7_connect_13 : decode cX7_connect 13 = .ok (.iload_n 2, 1) := by decide +kernel
theorem dX7_connect_14 : decode cX7_connect 14 = .ok (.invokestatic 63, 3) := by decide +kernel
theorem dX7_connect_17 : decode cX7_connect 17 = .ok (.aload_n 0, 1) := by decide +kernel
theorem dX7_connect_18 : decode cX7_connect 18 = .ok (.iload_n 3, 1) := by decide +kernel
theorem dX7_connect_19 : decode cX7_connect 19 = .ok (.iload 4, 2) := by decide +kernel
theorem dX7_connect_21 : decode cX7_connect 21 = .ok (.iload 5, 2) := by decide +kernel
theorem dX7_connect_23 : decode cX7_connect 23 = .ok (.invokevirtual 76, 3) := by decide +kernel
theorem dX7_connect_26 : decode cX7_connect 26 = .ok (.aload_n 0, 1) := by decide +kernel
theorem dX7_connect_27 : decode cX7_connect 27 = .ok (.invokevirtual 79, 3) := by decide +kernel
theorem dX7_connect_30 : decode cX7_connect 30 = .ok (.aload_n 0, 1) := by decide +kernel
theorem dX7_connect_31 : decode cX7_connect 31 = .ok (.getfield 10, 3) := by decide +kernel
theorem dX7_connect_34 : decode cX7_connect 34 = .ok (.new 82, 3) := by decide +kernel
theorem dX7_connect_37 : decode cX7_connect 37 = .ok (.dup, 1) := by decide +kernel
theorem dX7_connect_38 : decode cX7_connect 38 = .ok (.iload_n 1, 1) := by decide +kernel
theorem dX7_connect_39 : decode cX7_connect 39 = .ok (.iload_n 2, 1) := by decide +kernel
theorem dX7_connect_40 : decode cX7_connect 40 = .ok (.iload_n 3, 1) := by decide +kernel
theorem dX7_connect_41 : decode cX7_connect 41 = .ok (.iload 4, 2) := by decide +kernel
theorem dX7_connect_43 : decode cX7_connect 43 = .ok (.iload 5, 2) := by decide +kernel
theorem dX7_connect_45 : decode cX7_connect 45 = .ok (.invokespecial 84, 3) := by decide +kernel
theorem dX7_connect_48 : decode cX7_connect 48 = .ok (.invokevirtual 87, 3) := by decide +kernel
theorem dX7_connect_51 : decode cX7_connect 51 = .ok (.ireturn, 1) := by decide +kernel
set_option maxRecDepth 20000 in
theorem ggX7_repair_Jx4a65c_size_8abf5 : GoodIn wsX7_repair wsJx4a65c_size_8abf5 := goodIn_r _ [6, 7, 49, 50, 51] (by decide +kernel) (by decide +kernel)
set_option maxRecDepth 20000 in
theorem gX7_repair_Jx4a65c_size_8abf5 : GoodIn wsX7_repair (wsV RX7 95 RJx4a65c yJx4a65c_size_8abf5 wsJx4a65c_size_8abf5) := goodIn_app (goodIn_of _ (by decide +kernel)) ggX7_repair_Jx4a65c_size_8abf5
set_option maxRecDepth 20000 in
theorem ggX7_repair_X7_needIndex : GoodIn wsX7_repair wsX7_needIndex := goodIn_ca (goodIn_r _ [11, 12, 13] (by decide +kernel) (by decide +kernel)) (goodIn_sub (fun _ h => List.mem_cons_of_mem _ (List.mem_append_right _ h)) (by decide +kernel))
set_option maxRecDepth 20000 in
theorem gX7_repair_X7_needIndex : GoodIn wsX7_repair (va_wsS RX7 66 yX7_needIndex wsX7_needIndex) := goodIn_app (goodIn_of _ (by decide +kernel)) ggX7_repair_X7_needIndex
set_option maxRecDepth 20000 in
theorem ggX7_repair_Jx4a65c_remove_915e3 : GoodIn wsX7_repair wsJx4a65c_remove_915e3 := goodIn_r _ [17, 7, 18, 19, 20, 21, 22, 23, 24, 25, 26, 27, 28, 29, 5, 30, 31, 32, 33, 34, 35, 36, 49, 50, 51] (by decide +kernel) (by decide +kernel)
set_option maxRecDepth 20000 in
theorem gX7_repair_Jx4a65c_remove_915e3 : GoodIn wsX7_repair (wsV RX7 101 RJx4a65c yJx4a65c_remove_915e3 wsJx4a65c_remove_915e3) := goodIn_app (goodIn_of _ (by decide +kernel)) ggX7_repair_Jx4a65c_remove_915e3
theorem dX7_repair_0 : decode cX7_repair 0 = .ok (.iload_n 1, 1) := by decide +kernel
theorem dX7_repair_1 : decode cX7_repair 1 = .ok (.aload_n 0, 1) := by decide +kernel
theorem dX7_repair_2 : decode cX7_repair 2 = .ok (.getfield 10, 3) := by decide +kernel
theorem dX7_repair_5 : decode cX7_repair 5 = .ok (.getfield 91, 3) := by decide +kernel
theorem dX7_repair_8 : decode cX7_repair 8 = .ok (.invokevirtual 95, 3) := by decide +kernel
theorem dX7_repair_11 : decode cX7_repair 11 = .ok (.invokestatic 66, 3) := by decide +kernel
theorem dX7_repair_14 : decode cX7_repair 14 = .ok (.aload_n 0, 1) := by decide +kernel
theorem dX7_repair_15 : decode cX7_repair 15 = .ok (.getfield 10, 3) := by decide +kernel
theorem dX7_repair_18 : decode cX7_repair 18 = .ok (.getfield 91, 3) := by decide +kernel
theorem dX7_repair_21 : decode cX7_repair 21 = .ok (.iload_n 1, 1) := by decide +kernel
theorem dX7_repair_22 : decode cX7_repair 22 = .ok (.invokevirtual 101, 3) := by decide +kernel
theorem dX7_repair_25 : decode cX7_repair 25 = .ok (.pop, 1) := by decide +kernel
theorem dX7_repair_26 : decode cX7_repair 26 = .ok (.aload_n 0, 1) := by decide +kernel
theorem dX7_repair_27 : decode cX7_repair 27 = .ok (.getfield 10, 3) := by decide +kernel
theorem dX7_repair_30 : decode cX7_repair 30 = .ok (.getfield 91, 3) := by decide +kernel
theorem dX7_repair_33 : decode cX7_repair 33 = .ok (.invokevirtual 95, 3) := by decide +kernel
theorem dX7_repair_36 : decode cX7_repair 36 = .ok (.ireturn, 1) := by decide +kernel
set_option maxRecDepth 20000 in
theorem ggX7_plug_X7_needRange : GoodIn wsX7_plug wsX7_needRange := goodIn_ca (goodIn_r _ [5, 6, 7] (by decide +kernel) (by decide +kernel)) (goodIn_sub (fun _ h => List.mem_cons_of_mem _ (List.mem_append_right _ h)) (by decide +kernel))
set_option maxRecDepth 20000 in
theorem gX7_plug_X7_needRange : GoodIn wsX7_plug (va_wsS RX7 48 yX7_needRange wsX7_needRange) := goodIn_app (goodIn_of _ (by decide +kernel)) ggX7_plug_X7_needRange
theorem dX7_plug_0 : decode cX7_plug 0 = .ok (.iload_n 1, 1) := by decide +kernel
theorem dX7_plug_1 : decode cX7_plug 1 = .ok (.iconst 0, 1) := by decide +kernel
theorem dX7_plug_2 : decode cX7_plug 2 = .ok (.bipush 99, 2) := by decide +kernel
theorem dX7_plug_4 : decode cX7_plug 4 = .ok (.invokestatic 48, 3) := by decide +kernel
theorem dX7_plug_7 : decode cX7_plug 7 = .ok (.aload_n 0, 1) := by decide +kernel
theorem dX7_plug_8 : decode cX7_plug 8 = .ok (.getfield 10, 3) := by decide +kernel
theorem dX7_plug_11 : decode cX7_plug 11 = .ok (.getfield 105, 3) := by decide +kernel
theorem dX7_plug_14 : decode cX7_plug 14 = .ok (.istore_n 2, 1) := by decide +kernel
theorem dX7_plug_15 : decode cX7_plug 15 = .ok (.aload_n 0, 1) := by decide +kernel
theorem dX7_plug_16 : decode cX7_plug 16 = .ok (.getfield 10, 3) := by decide +kernel
theorem dX7_plug_19 : decode cX7_plug 19 = .ok (.iload_n 1, 1) := by decide +kernel
theorem dX7_plug_20 : decode cX7_plug 20 = .ok (.putfield 105, 3) := by decide +kernel
theorem dX7_plug_23 : decode cX7_plug 23 = .ok (.iload_n 2, 1) := by decide +kernel
theorem dX7_plug_24 : decode cX7_plug 24 = .ok (.ireturn, 1) := by decide +kernel
set_option maxRecDepth 20000 in
theorem ggX7_pass_X7_needRange : GoodIn wsX7_pass wsX7_needRange := goodIn_ca (goodIn_r _ [10, 11, 12] (by decide +kernel) (by decide +kernel)) (goodIn_sub (fun _ h => List.mem_cons_of_mem _ (List.mem_append_right _ h)) (by decide +kernel))
set_option maxRecDepth 20000 in
theorem gX7_pass_X7_needRange : GoodIn wsX7_pass (va_wsS RX7 48 yX7_needRange wsX7_needRange) := goodIn_app (goodIn_of _ (by decide +kernel)) ggX7_pass_X7_needRange
set_option maxRecDepth 20000 in
theorem ggX7_pass_X7_measure : GoodIn wsX7_pass wsX7_measure := goodIn_r _ [16, 6, 3, 17, 18, 19, 20, 21, 22, 23, 24, 25, 26, 27, 28, 29, 30, 31, 32, 33, 34, 35, 36, 37, 38, 39, 40, 41, 42, 43, 44, 45, 46, 47, 48, 49, 50, 51, 52, 53, 54, 55, 56, 57, 58, 59, 60, 61, 62, 63, 64, 65, 66, 67, 68, 69, 70, 71, 72, 73, 74, 75, 76, 77, 78, 79, 80, 81, 82, 83, 84, 85, 86, 87, 88, 89, 90, 91, 92, 93, 94, 95, 96, 97, 98, 99, 100, 101, 102, 103, 104, 105, 106, 107, 108, 109, 110, 111, 112, 113, 114, 115, 116, 117, 118, 119, 120, 121, 122, 123, 124, 125, 126, 127, 128, 129, 130, 131, 132, 133, 134, 135, 136, 137, 153, 154, 155, 156, 157, 158, 159, 160, 161, 162, 163, 164, 173, 174, 175, 176, 177, 178, 179, 180, 165, 166, 167, 168, 169, 170, 171, 172, 181] (by decide +kernel) (by decide +kernel)
set_option maxRecDepth 20000 in
theorem gX7_pass_X7_measure : GoodIn wsX7_pass (wsV RX7 119 RX7 yX7_measure wsX7_measure) := goodIn_app (goodIn_of _ (by decide +kernel)) ggX7_pass_X7_measure
set_option maxRecDepth 20000 in
theorem ggX7_pass_X7_measureOnwards : GoodIn wsX7_pass wsX7_measureOnwards := goodIn_r _ [141, 3, 6, 17, 18, 19, 20, 21, 22, 23, 24, 25, 26, 27, 28, 29, 30, 31, 32, 33, 34, 35, 36, 37, 38, 39, 40, 41, 42, 43, 44, 45, 46, 47, 48, 49, 50, 51, 52, 53, 54, 55, 56, 57, 58, 59, 60, 61, 62, 63, 64, 65, 66, 67, 68, 69, 70, 71, 72, 73, 74, 75, 76, 77, 78, 79, 80, 81, 82, 83, 84, 85, 86, 87, 88, 89, 90, 91, 92, 93, 94, 95, 96, 97, 98, 99, 100, 101, 102, 103, 104, 105, 106, 107, 108, 109, 110, 111, 112, 113, 114, 115, 116, 117, 118, 119, 120, 121, 122, 123, 124, 125, 126, 127, 128, 129, 130, 131, 132, 133, 134, 135, 136, 137, 153, 154, 155, 156, 157, 165, 166, 167, 168, 169, 170, 171, 172, 158, 159, 160, 161, 162, 163, 164, 173, 174, 175, 176, 177, 178, 179, 180, 181] (by decide +kernel) (by decide +kernel)
set_option maxRecDepth 20000 in
theorem gX7_pass_X7_measureOnwards : GoodIn wsX7_pass (wsV RX7 122 RX7 yX7_measureOnwards wsX7_measureOnwards) := goodIn_app (goodIn_of _ (by decide +kernel)) ggX7_pass_X7_measureOnwards
set_option maxRecDepth 20000 in
theorem ggX7_pass_X4_note : GoodIn wsX7_pass wsX4_note := goodIn_r _ [146, 147, 148, 149, 150, 151, 152, 182, 183] (by decide +kernel) (by decide +kernel)
set_option maxRecDepth 20000 in
theorem gX7_pass_X4_note : GoodIn wsX7_pass (wsV RX7 128 RX4 yX4_note wsX4_note) := goodIn_app (goodIn_of _ (by decide +kernel)) ggX7_pass_X4_note
theorem dX7_pass_0 : decode cX7_pass 0 = .ok (.iload_n 1, 1) := by decide +kernel
theorem dX7_pass_1 : decode cX7_pass 1 = .ok (.iconst 1, 1) := by decide +kernel
theorem dX7_pass_2 : decode cX7_pass 2 = .ok (.bipush 100, 2) := by decide +kernel
theorem dX7_pass_4 : decode cX7_pass 4 = .ok (.invokestatic 48, 3) := by decide +kernel
theorem dX7_pass_7 : decode cX7_pass 7 = .ok (.aload_n 0, 1) := by decide +kernel
theorem dX7_pass_8 : decode cX7_pass 8 = .ok (.getfield 10, 3) := by decide +kernel
theorem dX7_pass_11 : decode cX7_pass 11 = .ok (.getfield 108, 3) := by decide +kernel
theorem dX7_pass_14 : decode cX7_pass 14 = .ok (.ldc 111, 2) := by decide +kernel
theorem dX7_pass_16 : decode cX7_pass 16 = .ok (.iload_n 1, 1) := by decide +kernel
theorem dX7_pass_17 : decode cX7_pass 17 = .ok (.isub, 1) := by decide +kernel
theorem dX7_pass_18 : decode cX7_pass 18 = .ok (.if_icmp .le 13, 3) := by decide +kernel
theorem dX7_pass_21 : decode cX7_pass 21 = .ok (.new 112, 3) := by decide +kernel
theorem dX7_pass_24 : decode cX7_pass 24 = .ok (.dup, 1) := by decide +kernel
theorem dX7_pass_25 : decode cX7_pass 25 = .ok (.ldc 114, 2) := by decide +kernel
theorem dX7_pass_27 : decode cX7_pass 27 = .ok (.invokespecial 116, 3) := by decide +kernel
theorem dX7_pass_30 : decode cX7_pass 30 = .ok (.athrow, 1) := by decide +kernel
theorem dX7_pass_31 : decode cX7_pass 31 = .ok (.aload_n 0, 1) := by decide +kernel
theorem dX7_pass_32 : decode cX7_pass 32 = .ok (.invokevirtual 119, 3) := by decide +kernel
theorem dX7_pass_35 : decode cX7_pass 35 = .ok (.iconst 0, 1) := by decide +kernel
theorem dX7_pass_36 : decode cX7_pass 36 = .ok (.istore_n 2, 1) := by decide +kernel
theorem dX7_pass_37 : decode cX7_pass 37 = .ok (.iload_n 2, 1) := by decide +kernel
theorem dX7_pass_38 : decode cX7_pass 38 = .ok (.iload_n 1, 1) := by decide +kernel
theorem dX7_pass_39 : decode cX7_pass 39 = .ok (.if_icmp .ge 47, 3) := by decide +kernel
theorem dX7_pass_42 : decode cX7_pass 42 = .ok (.aload_n 0, 1) := by decide +kernel
theorem dX7_pass_43 : decode cX7_pass 43 = .ok (.getfield 10, 3) := by decide +kernel
theorem dX7_pass_46 : decode cX7_pass 46 = .ok (.dup, 1) := by decide +kernel
theorem dX7_pass_47 : decode cX7_pass 47 = .ok (.getfield 108, 3) := by decide +kernel
theorem dX7_pass_50 : decode cX7_pass 50 = .ok (.iconst 1, 1) := by decide +kernel
theorem dX7_pass_51 : decode cX7_pass 51 = .ok (.iadd, 1) := by decide +kernel
theorem dX7_pass_52 : decode cX7_pass 52 = .ok (.putfield 108, 3) := by decide +kernel
theorem dX7_pass_55 : decode cX7_pass 55 = .ok (.aload_n 0, 1) := by decide +kernel
theorem dX7_pass_56 : decode cX7_pass 56 = .ok (.aload_n 0, 1) := by decide +kernel
theorem dX7_pass_57 : decode cX7_pass 57 = .ok (.getfield 10, 3) := by decide +kernel
theorem dX7_pass_60 : decode cX7_pass 60 = .ok (.getfield 108, 3) := by decide +kernel
theorem dX7_pass_63 : decode cX7_pass 63 = .ok (.invokevirtual 122, 3) := by decide +kernel
theorem dX7_pass_66 : decode cX7_pass 66 = .ok (.aload_n 0, 1) := by decide +kernel
theorem dX7_pass_67 : decode cX7_pass 67 = .ok (.getfield 33, 3) := by decide +kernel
theorem dX7_pass_70 : decode cX7_pass 70 = .ok (.aload_n 0, 1) := by decide +kernel
theorem dX7_pass_71 : decode cX7_pass 71 = .ok (.getfield 19, 3) := by decide +kernel
theorem dX7_pass_74 : decode cX7_pass 74 = .ok (.getfield 125, 3) := by decide +kernel
theorem dX7_pass_77 : decode cX7_pass 77 = .ok (.invokevirtual 128, 3) := by decide +kernel
theorem dX7_pass_80 : decode cX7_pass 80 = .ok (.iinc 2 1, 3) := by decide +kernel
theorem dX7_pass_83 : decode cX7_pass 83 = .ok (.goto (-46), 3) := by decide +kernel
theorem dX7_pass_86 : decode cX7_pass 86 = .ok (.aload_n 0, 1) := by decide +kernel
theorem dX7_pass_87 : decode cX7_pass 87 = .ok (.getfield 10, 3) := by decide +kernel
theorem dX7_pass_90 : decode cX7_pass 90 = .ok (.getfield 108, 3) := by decide +kernel
theorem dX7_pass_93 : decode cX7_pass 93 = .ok (.ireturn, 1) := by decide +kernel
set_option maxRecDepth 20000 in
theorem ggX7_append_X7_needRange : GoodIn wsX7_append wsX7_needRange := goodIn_ca (goodIn_r _ [7, 8, 9] (by decide +kernel) (by decide +kernel)) (goodIn_sub (fun _ h => List.mem_cons_of_mem _ (List.mem_append_right _ h)) (by decide +kernel))
set_option maxRecDepth 20000 in
theorem gX7_append_X7_needRange : GoodIn wsX7_append (va_wsS RX7 48 yX7_needRange wsX7_needRange) := goodIn_app (goodIn_of _ (by decide +kernel)) ggX7_append_X7_needRange
set_option maxRecDepth 20000 in
theorem ggX7_append_X6_add : GoodIn wsX7_append wsX6_add := goodIn_r _ [14, 15, 16, 22, 23, 24, 25, 26, 27, 28, 29, 30, 31] (by decide +kernel) (by decide +kernel)
set_option maxRecDepth 20000 in
theorem gX7_append_X6_add : GoodIn wsX7_append (wsV RX7 134 RX6 yX6_add wsX6_add) := goodIn_app (goodIn_of _ (by decide +kernel)) ggX7_append_X6_add
theorem dX7_append_0 : decode cX7_append 0 = .ok (.iload_n 1, 1) := by decide +kernel
theorem dX7_append_1 : decode cX7_append 1 = .ok (.bipush 33, 2) := by decide +kernel
theorem dX7_append_3 : decode cX7_append 3 = .ok (.bipush 126, 2) := by decide +kernel
theorem dX7_append_5 : decode cX7_append 5 = .ok (.invokestatic 48, 3) := by decide +kernel
theorem dX7_append_8 : decode cX7_append 8 = .ok (.aload_n 0, 1) := by decide +kernel
theorem dX7_append_9 : decode cX7_append 9 = .ok (.getfield 40, 3) := by decide +kernel
theorem dX7_append_12 : decode cX7_append 12 = .ok (.getfield 131, 3) := by decide +kernel
theorem dX7_append_15 : decode cX7_append 15 = .ok (.bipush 50, 2) := by decide +kernel
theorem dX7_append_17 : decode cX7_append 17 = .ok (.if_icmp .lt 13, 3) := by decide +kernel
theorem dX7_append_20 : decode cX7_append 20 = .ok (.new 112, 3) := by decide +kernel
theorem dX7_append_23 : decode cX7_append 23 = .ok (.dup, 1) := by decide +kernel
theorem dX7_append_24 : decode cX7_append 24 = .ok (.ldc 132, 2) := by decide +kernel
theorem dX7_append_26 : decode cX7_append 26 = .ok (.invokespecial 116, 3) := by decide +kernel
theorem dX7_append_29 : decode cX7_append 29 = .ok (.athrow, 1) := by decide +kernel
theorem dX7_append_30 : decode cX7_append 30 = .ok (.aload_n 0, 1) := by decide +kernel
theorem dX7_append_31 : decode cX7_append 31 = .ok (.getfield 40, 3) := by decide +kernel
theorem dX7_append_34 : decode cX7_append 34 = .ok (.iload_n 1, 1) := by decide +kernel
theorem dX7_append_35 : decode cX7_append 35 = .ok (.invokevirtual 134, 3) := by decide +kernel
theorem dX7_append_38 : decode cX7_append 38 = .ok (.aload_n 0, 1) := by decide +kernel
theorem dX7_append_39 : decode cX7_append 39 = .ok (.getfield 40, 3) := by decide +kernel
theorem dX7_append_42 : decode cX7_append 42 = .ok (.getfield 131, 3) := by decide +kernel
theorem dX7_append_45 : decode cX7_append 45 = .ok (.ireturn, 1) := by decide +kernel
theorem dX7_clearBuffer_0 : decode cX7_clearBuffer 0 = .ok (.aload_n 0, 1) := by decide +kernel
theorem dX7_clearBuffer_1 : decode cX7_clearBuffer 1 = .ok (.getfield 40, 3) := by decide +kernel
theorem dX7_clearBuffer_4 : decode cX7_clearBuffer 4 = .ok (.getfield 131, 3) := by decide +kernel
theorem dX7_clearBuffer_7 : decode cX7_clearBuffer 7 = .ok (.istore_n 1, 1) := by decide +kernel
theorem dX7_clearBuffer_8 : decode cX7_clearBuffer 8 = .ok (.aload_n 0, 1) := by decide +kernel
theorem dX7_clearBuffer_9 : decode cX7_clearBuffer 9 = .ok (.getfield 40, 3) := by decide +kernel
theorem dX7_clearBuffer_12 : decode cX7_clearBuffer 12 = .ok (.iconst 0, 1) := by decide +kernel
theorem dX7_clearBuffer_13 : decode cX7_clearBuffer 13 = .ok (.putfield 131, 3) := by decide +kernel
theorem dX7_clearBuffer_16 : decode cX7_clearBuffer 16 = .ok (.iload_n 1, 1) := by decide +kernel
theorem dX7_clearBuffer_17 : decode cX7_clearBuffer 17 = .ok (.ireturn, 1) := by decide +kernel
set_option maxRecDepth 20000 in
theorem ggX7_firstError_X6_errorIndex : GoodIn wsX7_firstError wsX6_errorIndex := goodIn_r _ [6, 7, 8, 9, 10, 5, 11, 12, 13, 14, 15, 16, 17, 18, 19, 20, 21, 22, 23, 24, 25, 26, 27, 28, 29, 30, 31, 32, 33, 34, 35, 36, 37, 38, 39, 40, 41, 42, 43, 44, 45, 46, 47, 48, 49, 50, 51, 52, 53, 54, 55, 56, 57, 58, 59, 60, 61, 62, 63, 64, 65, 66, 67, 73, 74, 75, 76, 77, 78, 79, 80, 81, 82] (by decide +kernel) (by decide +kernel)
set_option maxRecDepth 20000 in
theorem gX7_firstError_X6_errorIndex : GoodIn wsX7_firstError (wsV RX7 137 RX6 yX6_errorIndex wsX6_errorIndex) := goodIn_app (goodIn_of _ (by decide +kernel)) ggX7_firstError_X6_errorIndex
theorem dX7_firstError_0 : decode cX7_firstError 0 = .ok (.aload_n 0, 1) := by decide +kernel
theorem dX7_firstError_1 : decode cX7_firstError 1 = .ok (.getfield 40, 3) := by decide +kernel
theorem dX7_firstError_4 : decode cX7_firstError 4 = .ok (.invokevirtual 137, 3) := by decide +kernel
theorem dX7_firstError_7 : decode cX7_firstError 7 = .ok (.ireturn, 1) := by decide +kernel
set_option maxRecDepth 20000 in
theorem ggX7_load_X6_isComplete : GoodIn wsX7_load wsX6_isComplete := goodIn_r _ [10, 11, 12, 13, 14, 9, 15, 16, 17, 18, 19, 20, 21, 22, 23, 24, 25, 26, 27, 28, 29, 30, 31, 32, 33, 34, 35, 36, 37, 38, 39, 40, 41, 42, 43, 44, 45, 46, 47, 48, 49, 50, 51, 52, 53, 54, 55, 56, 57, 58, 59, 60, 61, 62, 63, 64, 65, 66, 67, 68, 69, 70, 71, 72, 73, 74, 75, 183, 184, 185, 186, 187, 188, 189, 190, 191, 192] (by decide +kernel) (by decide +kernel)
set_option maxRecDepth 20000 in
theorem gX7_load_X6_isComplete : GoodIn wsX7_load (wsV RX7 140 RX6 yX6_isComplete wsX6_isComplete) := goodIn_app (goodIn_of _ (by decide +kernel)) ggX7_load_X6_isComplete
set_option maxRecDepth 20000 in
theorem ggX7_load_X7_textFitsCable : GoodIn wsX7_load wsX7_textFitsCable := goodIn_r _ [80, 81, 5, 82, 83, 84, 85, 86, 87, 88, 17, 18, 9, 19, 20, 21, 89, 90, 91, 92, 11, 22, 23, 24, 25, 26, 27, 28, 29, 30, 31, 32, 33, 34, 35, 36, 37, 38, 39, 40, 41, 42, 43, 44, 45, 46, 47, 48, 49, 50, 51, 52, 53, 54, 55, 56, 57, 58, 59, 60, 61, 62, 63, 64, 65, 66, 67, 68, 69, 70, 71, 72, 73, 74, 75, 93, 178, 179, 180, 181, 182, 193, 194, 195, 196, 197, 198, 199, 183, 184, 185, 186, 187, 188, 189, 190, 191, 192, 200, 201, 202] (by decide +kernel) (by decide +kernel)
set_option maxRecDepth 20000 in
theorem gX7_load_X7_textFitsCable : GoodIn wsX7_load (wsV RX7 149 RX7 yX7_textFitsCable wsX7_textFitsCable) := goodIn_app (goodIn_of _ (by decide +kernel)) ggX7_load_X7_textFitsCable
set_option maxRecDepth 20000 in
theorem ggX7_load_X7_carryOutText : GoodIn wsX7_load wsX7_carryOutText := goodIn_r _ [97, 5, 81, 98, 99, 100, 88, 17, 18, 9, 19, 20, 21, 89, 90, 91, 92, 11, 22, 23, 24, 25, 26, 27, 28, 29, 30, 31, 32, 33, 34, 35, 36, 37, 38, 39, 40, 41, 42, 43, 44, 45, 46, 47, 48, 49, 50, 51, 52, 53, 54, 55, 56, 57, 58, 59, 60, 61, 62, 63, 64, 65, 66, 67, 68, 69, 70, 71, 72, 73, 74, 75, 93, 101, 102, 103, 104, 105, 106, 107, 108, 109, 110, 111, 112, 113, 114, 115, 116, 117, 118, 119, 120, 85, 121, 122, 123, 124, 87, 125, 126, 127, 128, 129, 130, 131, 132, 133, 134, 135, 136, 137, 138, 139, 140, 141, 142, 143, 144, 145, 146, 147, 148, 149, 150, 151, 152, 153, 154, 155, 156, 157, 158, 159, 160, 161, 162, 163, 164, 165, 166, 167, 168, 169, 170, 171, 172, 83, 84, 86, 173, 174, 175, 176, 177, 178, 179, 180, 181, 182, 203, 204, 205, 206, 207, 183, 184, 185, 186, 187, 188, 189, 190, 191, 192, 193, 194, 195, 196, 197, 198, 199, 200, 201, 202] (by decide +kernel) (by decide +kernel)
set_option maxRecDepth 20000 in
theorem gX7_load_X7_carryOutText : GoodIn wsX7_load (wsV RX7 154 RX7 yX7_carryOutText wsX7_carryOutText) := goodIn_app (goodIn_of _ (by decide +kernel)) ggX7_load_X7_carryOutText
theorem dX7_load_0 : decode cX7_load 0 = .ok (.aload_n 0, 1) := by decide +kernel
theorem dX7_load_1 : decode cX7_load 1 = .ok (.getfield 40, 3) := by decide +kernel
theorem dX7_load_4 : decode cX7_load 4 = .ok (.invokevirtual 140, 3) := by decide +kernel
theorem dX7_load_7 : decode cX7_load 7 = .ok (.ifCond .ne 13, 3) := by decide +kernel
theorem dX7_load_10 : decode cX7_load 10 = .ok (.new 144, 3) := by decide +kernel
theorem dX7_load_13 : decode cX7_load 13 = .ok (.dup, 1) := by decide +kernel
theorem dX7_load_14 : decode cX7_load 14 = .ok (.ldc 146, 2) := by decide +kernel
theorem dX7_load_16 : decode cX7_load 16 = .ok (.invokespecial 148, 3) := by decide +kernel
theorem dX7_load_19 : decode cX7_load 19 = .ok (.athrow, 1) := by decide +kernel
theorem dX7_load_20 : decode cX7_load 20 = .ok (.aload_n 0, 1) := by decide +kernel
theorem dX7_load_21 : decode cX7_load 21 = .ok (.invokevirtual 149, 3) := by decide +kernel
theorem dX7_load_24 : decode cX7_load 24 = .ok (.ifCond .ne 13, 3) := by decide +kernel
theorem dX7_load_27 : decode cX7_load 27 = .ok (.new 112, 3) := by decide +kernel
theorem dX7_load_30 : decode cX7_load 30 = .ok (.dup, 1) := by decide +kernel
theorem dX7_load_31 : decode cX7_load 31 = .ok (.ldc 152, 2) := by decide +kernel
theorem dX7_load_33 : decode cX7_load 33 = .ok (.invokespecial 116, 3) := by decide +kernel
theorem dX7_load_36 : decode cX7_load 36 = .ok (.athrow, 1) := by decide +kernel
theorem dX7_load_37 : decode cX7_load 37 = .ok (.aload_n 0, 1) := by decide +kernel
theorem dX7_load_38 : decode cX7_load 38 = .ok (.invokevirtual 154, 3) := by decide +kernel
theorem dX7_load_41 : decode cX7_load 41 = .ok (.istore_n 1, 1) := by decide +kernel
theorem dX7_load_42 : decode cX7_load 42 = .ok (.aload_n 0, 1) := by decide +kernel
theorem dX7_load_43 : decode cX7_load 43 = .ok (.getfield 40, 3) := by decide +kernel
theorem dX7_load_46 : decode cX7_load 46 = .ok (.iconst 0, 1) := by decide +kernel
theorem dX7_load_47 : decode cX7_load 47 = .ok (.putfield 131, 3) := by decide +kernel
theorem dX7_load_50 : decode cX7_load 50 = .ok (.iload_n 1, 1) := by decide +kernel
theorem dX7_load_51 : decode cX7_load 51 = .ok (.ireturn, 1) := by decide +kernel
set_option maxRecDepth 20000 in
theorem ggX7_joined_X7_needEnd : GoodIn wsX7_joined wsX7_needEnd := goodIn_ca (goodIn_r _ [5, 6, 7, 4, 8, 9, 10] (by decide +kernel) (by decide +kernel)) (goodIn_sub (fun _ h => List.mem_cons_of_mem _ (List.mem_append_left _ (List.mem_append_right _ h))) (by decide +kernel))
set_option maxRecDepth 20000 in
theorem gX7_joined_X7_needEnd : GoodIn wsX7_joined (va_wsS RX7 59 yX7_needEnd wsX7_needEnd) := goodIn_app (goodIn_of _ (by decide +kernel)) ggX7_joined_X7_needEnd
set_option maxRecDepth 20000 in
theorem ggX7_joined_X7_needIndex : GoodIn wsX7_joined wsX7_needIndex := goodIn_ca (goodIn_r _ [13, 14, 15] (by decide +kernel) (by decide +kernel)) (goodIn_sub (fun _ h => List.mem_cons_of_mem _ (List.mem_append_right _ h)) (by decide +kernel))
set_option maxRecDepth 20000 in
theorem gX7_joined_X7_needIndex : GoodIn wsX7_joined (va_wsS RX7 66 yX7_needIndex wsX7_needIndex) := goodIn_app (goodIn_of _ (by decide +kernel)) ggX7_joined_X7_needIndex
set_option maxRecDepth 20000 in
theorem ggX7_joined_X7_measure : GoodIn wsX7_joined wsX7_measure := goodIn_r _ [19, 1, 20, 21, 22, 23, 24, 25, 26, 27, 28, 29, 30, 31, 32, 33, 34, 35, 36, 37, 38, 39, 40, 41, 42, 43, 44, 45, 46, 47, 48, 49, 50, 51, 52, 53, 54, 55, 56, 57, 58, 59, 60, 61, 62, 63, 64, 65, 66, 67, 68, 69, 70, 71, 72, 73, 74, 75, 76, 77, 78, 79, 80, 81, 82, 83, 84, 85, 86, 87, 88, 89, 90, 91, 92, 93, 94, 95, 96, 97, 98, 99, 100, 101, 102, 103, 104, 105, 106, 107, 108, 109, 110, 111, 112, 113, 114, 115, 116, 117, 118, 119, 120, 121, 122, 123, 124, 125, 126, 127, 128, 129, 130, 131, 132, 133, 134, 135, 136, 137, 138, 139, 140, 141, 146, 147, 148, 149, 150, 151, 152, 153, 154, 155, 156, 157, 158, 159, 160, 161, 162, 163, 164, 165, 166, 167, 168, 169, 170, 171, 172, 173, 174] (by decide +kernel) (by decide +kernel)
set_option maxRecDepth 20000 in
theorem gX7_joined_X7_measure : GoodIn wsX7_joined (wsV RX7 119 RX7 yX7_measure wsX7_measure) := goodIn_app (goodIn_of _ (by decide +kernel)) ggX7_joined_X7_measure
set_option maxRecDepth 20000 in
theorem ggX7_joined_X5_joinedPins : GoodIn wsX7_joined wsX5_joinedPins := goodIn_r _ [145, 131, 132, 133, 61, 134, 127, 128, 129, 130, 113, 123, 124, 125, 126, 166, 167, 168, 169, 170, 171, 172, 173] (by decide +kernel) (by decide +kernel)
set_option maxRecDepth 20000 in
theorem gX7_joined_X5_joinedPins : GoodIn wsX7_joined (wsV RX7 157 RX5 yX5_joinedPins wsX5_joinedPins) := goodIn_app (goodIn_of _ (by decide +kernel)) ggX7_joined_X5_joinedPins
theorem dX7_joined_0 : decode cX7_joined 0 = .ok (.iload_n 1, 1) := by decide +kernel
theorem dX7_joined_1 : decode cX7_joined 1 = .ok (.invokestatic 59, 3) := by decide +kernel
theorem dX7_joined_4 : decode cX7_joined 4 = .ok (.iload_n 3, 1) := by decide +kernel
theorem dX7_joined_5 : decode cX7_joined 5 = .ok (.invokestatic 59, 3) := by decide +kernel
theorem dX7_joined_8 : decode cX7_joined 8 = .ok (.iload_n 2, 1) := by decide +kernel
theorem dX7_joined_9 : decode cX7_joined 9 = .ok (.bipush 8, 2) := by decide +kernel
theorem dX7_joined_11 : decode cX7_joined 11 = .ok (.invokestatic 66, 3) := by decide +kernel
theorem dX7_joined_14 : decode cX7_joined 14 = .ok (.aload_n 0, 1) := by decide +kernel
theorem dX7_joined_15 : decode cX7_joined 15 = .ok (.invokevirtual 119, 3) := by decide +kernel
theorem dX7_joined_18 : decode cX7_joined 18 = .ok (.aload_n 0, 1) := by decide +kernel
theorem dX7_joined_19 : decode cX7_joined 19 = .ok (.getfield 19, 3) := by decide +kernel
theorem dX7_joined_22 : decode cX7_joined 22 = .ok (.iload_n 1, 1) := by decide +kernel
theorem dX7_joined_23 : decode cX7_joined 23 = .ok (.iload_n 2, 1) := by decide +kernel
theorem dX7_joined_24 : decode cX7_joined 24 = .ok (.iload_n 3, 1) := by decide +kernel
theorem dX7_joined_25 : decode cX7_joined 25 = .ok (.invokevirtual 157, 3) := by decide +kernel
theorem dX7_joined_28 : decode cX7_joined 28 = .ok (.ireturn, 1) := by decide +kernel
set_option maxRecDepth 20000 in
theorem ggX7_status_X7_needIndex : GoodIn wsX7_status wsX7_needIndex := goodIn_ca (goodIn_r _ [5, 6, 7] (by decide +kernel) (by decide +kernel)) (goodIn_sub (fun _ h => List.mem_cons_of_mem _ (List.mem_append_right _ h)) (by decide +kernel))
set_option maxRecDepth 20000 in
theorem gX7_status_X7_needIndex : GoodIn wsX7_status (va_wsS RX7 66 yX7_needIndex wsX7_needIndex) := goodIn_app (goodIn_of _ (by decide +kernel)) ggX7_status_X7_needIndex
set_option maxRecDepth 20000 in
theorem ggX7_status_X7_measure : GoodIn wsX7_status wsX7_measure := goodIn_r _ [11, 1, 12, 13, 14, 15, 16, 17, 18, 19, 20, 21, 22, 23, 24, 25, 26, 27, 28, 29, 30, 31, 32, 33, 34, 35, 36, 37, 38, 39, 40, 41, 42, 43, 44, 45, 46, 47, 48, 49, 50, 51, 52, 53, 54, 55, 56, 57, 58, 59, 60, 61, 62, 63, 64, 65, 66, 67, 68, 69, 70, 71, 72, 73, 74, 75, 76, 77, 78, 79, 80, 81, 82, 83, 84, 85, 86, 87, 88, 89, 90, 91, 92, 93, 94, 95, 96, 97, 98, 99, 100, 101, 102, 103, 104, 105, 106, 107, 108, 109, 110, 111, 112, 113, 114, 115, 116, 117, 118, 119, 120, 121, 122, 123, 124, 125, 126, 127, 128, 129, 130, 131, 132, 133, 135, 136, 137, 138, 139, 140, 141, 142, 143, 144, 145, 146, 147, 148, 149, 150, 151, 152, 153, 154, 155, 156, 157, 158, 159, 160, 161, 162, 163] (by decide +kernel) (by decide +kernel)
set_option maxRecDepth 20000 in
theorem gX7_status_X7_measure : GoodIn wsX7_status (wsV RX7 119 RX7 yX7_measure wsX7_measure) := goodIn_app (goodIn_of _ (by decide +kernel)) ggX7_status_X7_measure
set_option maxRecDepth 20000 in
theorem ggX7_status_X5_statusOf : GoodIn wsX7_status wsX5_statusOf := goodIn_r _ [114, 115, 116, 117, 53, 118, 119, 120, 121, 122, 105, 123, 124, 125, 126, 127, 128, 129, 130, 131, 132, 133, 155, 156, 157, 158, 159, 160, 161, 162] (by decide +kernel) (by decide +kernel)
set_option maxRecDepth 20000 in
theorem gX7_status_X5_statusOf : GoodIn wsX7_status (wsV RX7 161 RX5 yX5_statusOf wsX5_statusOf) := goodIn_app (goodIn_of _ (by decide +kernel)) ggX7_status_X5_statusOf
theorem dX7_status_0 : decode cX7_status 0 = .ok (.iload_n 1, 1) := by decide +kernel
theorem dX7_status_1 : decode cX7_status 1 = .ok (.bipush 8, 2) := by decide +kernel
theorem dX7_status_3 : decode cX7_status 3 = .ok (.invokestatic 66, 3) := by decide +kernel
theorem dX7_status_6 : decode cX7_status 6 = .ok (.aload_n 0, 1) := by decide +kernel
theorem dX7_status_7 : decode cX7_status 7 = .ok (.invokevirtual 119, 3) := by decide +kernel
theorem dX7_status_10 : decode cX7_status 10 = .ok (.aload_n 0, 1) := by decide +kernel
theorem dX7_status_11 : decode cX7_status 11 = .ok (.getfield 19, 3) := by decide +kernel
theorem dX7_status_14 : decode cX7_status 14 = .ok (.iload_n 1, 1) := by decide +kernel
theorem dX7_status_15 : decode cX7_status 15 = .ok (.invokevirtual 161, 3) := by decide +kernel
theorem dX7_status_18 : decode cX7_status 18 = .ok (.ireturn, 1) := by decide +kernel
set_option maxRecDepth 20000 in
theorem ggX7_echo_X7_needIndex : GoodIn wsX7_echo wsX7_needIndex := goodIn_ca (goodIn_r _ [5, 6, 7] (by decide +kernel) (by decide +kernel)) (goodIn_sub (fun _ h => List.mem_cons_of_mem _ (List.mem_append_left _ (List.mem_append_right _ h))) (by decide +kernel))
set_option maxRecDepth 20000 in
theorem gX7_echo_X7_needIndex : GoodIn wsX7_echo (va_wsS RX7 66 yX7_needIndex wsX7_needIndex) := goodIn_app (goodIn_of _ (by decide +kernel)) ggX7_echo_X7_needIndex
set_option maxRecDepth 20000 in
theorem ggX7_echo_X7_needRange : GoodIn wsX7_echo wsX7_needRange := goodIn_ca (goodIn_r _ [10, 11, 12] (by decide +kernel) (by decide +kernel)) (goodIn_sub (fun _ h => List.mem_cons_of_mem _ (List.mem_append_right _ h)) (by decide +kernel))
set_option maxRecDepth 20000 in
theorem gX7_echo_X7_needRange : GoodIn wsX7_echo (va_wsS RX7 48 yX7_needRange wsX7_needRange) := goodIn_app (goodIn_of _ (by decide +kernel)) ggX7_echo_X7_needRange
set_option maxRecDepth 20000 in
theorem ggX7_echo_X0_echoAt : GoodIn wsX7_echo wsX0_echoAt := goodIn_r _ [17, 18, 19, 20, 21, 22, 23, 24, 25, 26, 16, 27, 28, 29, 30, 31, 32, 33, 34, 35, 36, 37, 38, 39, 40, 41, 42, 43, 44, 45, 46, 47, 48, 49, 50, 51, 52, 53, 54, 55, 56, 57, 58, 59, 60, 61, 62, 63, 64, 65, 66, 67, 68, 69, 70, 71, 72, 73, 74, 75, 76, 77, 78, 79, 80, 81, 82, 83, 84, 85, 91, 92, 93, 94, 95, 96, 97, 98, 99, 100, 101, 102, 103, 104, 105] (by decide +kernel) (by decide +kernel)
set_option maxRecDepth 20000 in
theorem gX7_echo_X0_echoAt : GoodIn wsX7_echo (wsV RX7 165 RX0 yX0_echoAt wsX0_echoAt) := goodIn_app (goodIn_of _ (by decide +kernel)) ggX7_echo_X0_echoAt
theorem dX7_echo_0 : decode cX7_echo 0 = .ok (.iload_n 1, 1) := by decide +kernel
theorem dX7_echo_1 : decode cX7_echo 1 = .ok (.bipush 8, 2) := by decide +kernel
theorem dX7_echo_3 : decode cX7_echo 3 = .ok (.invokestatic 66, 3) := by decide +kernel
theorem dX7_echo_6 : decode cX7_echo 6 = .ok (.iload_n 2, 1) := by decide +kernel
theorem dX7_echo_7 : decode cX7_echo 7 = .ok (.iconst 0, 1) := by decide +kernel
theorem dX7_echo_8 : decode cX7_echo 8 = .ok (.iconst 3, 1) := by decide +kernel
theorem dX7_echo_9 : decode cX7_echo 9 = .ok (.invokestatic 48, 3) := by decide +kernel
theorem dX7_echo_12 : decode cX7_echo 12 = .ok (.aload_n 0, 1) := by decide +kernel
theorem dX7_echo_13 : decode cX7_echo 13 = .ok (.getfield 10, 3) := by decide +kernel
theorem dX7_echo_16 : decode cX7_echo 16 = .ok (.iload_n 1, 1) := by decide +kernel
theorem dX7_echo_17 : decode cX7_echo 17 = .ok (.iload_n 2, 1) := by decide +kernel
theorem dX7_echo_18 : decode cX7_echo 18 = .ok (.invokevirtual 165, 3) := by decide +kernel
theorem dX7_echo_21 : decode cX7_echo 21 = .ok (.ireturn, 1) := by decide +kernel
set_option maxRecDepth 20000 in
theorem ggX7_crosstalk_X7_needIndex : GoodIn wsX7_crosstalk wsX7_needIndex := goodIn_ca (goodIn_r _ [5, 6, 7] (by decide +kernel) (by decide +kernel)) (goodIn_sub (fun _ h => List.mem_cons_of_mem _ (List.mem_append_right _ h)) (by decide +kernel))
set_option maxRecDepth 20000 in
theorem gX7_crosstalk_X7_needIndex : GoodIn wsX7_crosstalk (va_wsS RX7 66 yX7_needIndex wsX7_needIndex) := goodIn_app (goodIn_of _ (by decide +kernel)) ggX7_crosstalk_X7_needIndex
set_option maxRecDepth 20000 in
theorem ggX7_crosstalk_X0_crosstalkOf : GoodIn wsX7_crosstalk wsX0_crosstalkOf := goodIn_r _ [12, 13, 14, 15, 11, 16, 17, 23, 24, 25, 26, 27, 28, 29] (by decide +kernel) (by decide +kernel)
set_option maxRecDepth 20000 in
theorem gX7_crosstalk_X0_crosstalkOf : GoodIn wsX7_crosstalk (wsV RX7 168 RX0 yX0_crosstalkOf wsX0_crosstalkOf) := goodIn_app (goodIn_of _ (by decide +kernel)) ggX7_crosstalk_X0_crosstalkOf
theorem dX7_crosstalk_0 : decode cX7_crosstalk 0 = .ok (.iload_n 1, 1) := by decide +kernel
theorem dX7_crosstalk_1 : decode cX7_crosstalk 1 = .ok (.iconst 4, 1) := by decide +kernel
theorem dX7_crosstalk_2 : decode cX7_crosstalk 2 = .ok (.invokestatic 66, 3) := by decide +kernel
theorem dX7_crosstalk_5 : decode cX7_crosstalk 5 = .ok (.iload_n 2, 1) := by decide +kernel
theorem dX7_crosstalk_6 : decode cX7_crosstalk 6 = .ok (.iconst 4, 1) := by decide +kernel
theorem dX7_crosstalk_7 : decode cX7_crosstalk 7 = .ok (.invokestatic 66, 3) := by decide +kernel
theorem dX7_crosstalk_10 : decode cX7_crosstalk 10 = .ok (.aload_n 0, 1) := by decide +kernel
theorem dX7_crosstalk_11 : decode cX7_crosstalk 11 = .ok (.getfield 10, 3) := by decide +kernel
theorem dX7_crosstalk_14 : decode cX7_crosstalk 14 = .ok (.iload_n 1, 1) := by decide +kernel
theorem dX7_crosstalk_15 : decode cX7_crosstalk 15 = .ok (.iload_n 2, 1) := by decide +kernel
theorem dX7_crosstalk_16 : decode cX7_crosstalk 16 = .ok (.invokevirtual 168, 3) := by decide +kernel
theorem dX7_crosstalk_19 : decode cX7_crosstalk 19 = .ok (.ireturn, 1) := by decide +kernel
set_option maxRecDepth 20000 in
theorem ggX7_identify_X7_measure : GoodIn wsX7_identify wsX7_measure := goodIn_r _ [5, 6, 7, 8, 9, 10, 11, 12, 13, 14, 15, 16, 17, 18, 19, 20, 21, 22, 23, 24, 25, 26, 27, 28, 29, 30, 31, 32, 33, 34, 35, 36, 37, 38, 39, 40, 41, 42, 43, 44, 45, 46, 47, 48, 49, 50, 51, 52, 53, 54, 55, 56, 57, 58, 59, 60, 61, 62, 63, 64, 65, 66, 67, 68, 69, 70, 71, 72, 73, 74, 75, 76, 77, 78, 79, 80, 81, 82, 83, 84, 85, 86, 87, 88, 89, 90, 91, 92, 93, 94, 95, 96, 97, 98, 99, 100, 101, 102, 103, 104, 105, 106, 107, 108, 109, 110, 111, 112, 113, 114, 115, 116, 117, 118, 119, 120, 121, 122, 123, 124, 125, 126, 127, 128, 139, 140, 141, 142, 143, 144, 145, 146, 147, 148, 149, 150, 151, 152, 153, 154, 155, 156, 157, 158, 159, 160, 161, 162, 163, 164, 165, 166, 167] (by decide +kernel) (by decide +kernel)
set_option maxRecDepth 20000 in
theorem gX7_identify_X7_measure : GoodIn wsX7_identify (wsV RX7 119 RX7 yX7_measure wsX7_measure) := goodIn_app (goodIn_of _ (by decide +kernel)) ggX7_identify_X7_measure
set_option maxRecDepth 20000 in
theorem ggX7_identify_X7_identifiedUnit : GoodIn wsX7_identify wsX7_identifiedUnit := goodIn_r _ [132, 7, 6, 133, 107, 108, 48, 109, 110, 111, 112, 113, 114, 115, 116, 117, 100, 118, 119, 120, 121, 122, 123, 124, 125, 126, 127, 128, 134, 135, 136, 11, 137, 138, 91, 92, 93, 94, 139, 140, 141, 142, 143, 144, 145, 146, 147, 148, 149, 150, 159, 160, 161, 162, 163, 164, 165, 166] (by decide +kernel) (by decide +kernel)
set_option maxRecDepth 20000 in
theorem gX7_identify_X7_identifiedUnit : GoodIn wsX7_identify (wsV RX7 171 RX7 yX7_identifiedUnit wsX7_identifiedUnit) := goodIn_app (goodIn_of _ (by decide +kernel)) ggX7_identify_X7_identifiedUnit
theorem dX7_identify_0 : decode cX7_identify 0 = .ok (.aload_n 0, 1) := by decide +kernel
theorem dX7_identify_1 : decode cX7_identify 1 = .ok (.invokevirtual 119, 3) := by decide +kernel
theorem dX7_identify_4 : decode cX7_identify 4 = .ok (.aload_n 0, 1) := by decide +kernel
theorem dX7_identify_5 : decode cX7_identify 5 = .ok (.invokevirtual 171, 3) := by decide +kernel
theorem dX7_identify_8 : decode cX7_identify 8 = .ok (.ireturn, 1) := by decide +kernel
set_option maxRecDepth 20000 in
theorem ggX7_records_X7_needIndex : GoodIn wsX7_records wsX7_needIndex := goodIn_ca (goodIn_r _ [5, 6, 7] (by decide +kernel) (by decide +kernel)) (goodIn_sub (fun _ h => List.mem_cons_of_mem _ (List.mem_append_left _ (List.mem_append_right _ h))) (by decide +kernel))
set_option maxRecDepth 20000 in
theorem gX7_records_X7_needIndex : GoodIn wsX7_records (va_wsS RX7 66 yX7_needIndex wsX7_needIndex) := goodIn_app (goodIn_of _ (by decide +kernel)) ggX7_records_X7_needIndex
set_option maxRecDepth 20000 in
theorem ggX7_records_X7_needRange : GoodIn wsX7_records wsX7_needRange := goodIn_ca (goodIn_r _ [10, 11, 12] (by decide +kernel) (by decide +kernel)) (goodIn_sub (fun _ h => List.mem_cons_of_mem _ (List.mem_append_right _ h)) (by decide +kernel))
set_option maxRecDepth 20000 in
theorem gX7_records_X7_needRange : GoodIn wsX7_records (va_wsS RX7 48 yX7_needRange wsX7_needRange) := goodIn_app (goodIn_of _ (by decide +kernel)) ggX7_records_X7_needRange
set_option maxRecDepth 20000 in
theorem ggX7_records_X4_numberAbout : GoodIn wsX7_records wsX4_numberAbout := goodIn_r _ [17, 18, 19, 20, 21, 16, 22, 23, 24, 25, 26, 27, 28, 29, 30, 31, 32, 33, 34, 35, 36, 37, 38, 39, 40, 41, 42, 43, 44, 45, 46, 47, 48, 49, 50, 56, 57] (by decide +kernel) (by decide +kernel)
set_option maxRecDepth 20000 in
theorem gX7_records_X4_numberAbout : GoodIn wsX7_records (wsV RX7 174 RX4 yX4_numberAbout wsX4_numberAbout) := goodIn_app (goodIn_of _ (by decide +kernel)) ggX7_records_X4_numberAbout
theorem dX7_records_0 : decode cX7_records 0 = .ok (.iload_n 1, 1) := by decide +kernel
theorem dX7_records_1 : decode cX7_records 1 = .ok (.bipush 8, 2) := by decide +kernel
theorem dX7_records_3 : decode cX7_records 3 = .ok (.invokestatic 66, 3) := by decide +kernel
theorem dX7_records_6 : decode cX7_records 6 = .ok (.iload_n 2, 1) := by decide +kernel
theorem dX7_records_7 : decode cX7_records 7 = .ok (.iconst 0, 1) := by decide +kernel
theorem dX7_records_8 : decode cX7_records 8 = .ok (.iconst 4, 1) := by decide +kernel
theorem dX7_records_9 : decode cX7_records 9 = .ok (.invokestatic 48, 3) := by decide +kernel
theorem dX7_records_12 : decode cX7_records 12 = .ok (.aload_n 0, 1) := by decide +kernel
theorem dX7_records_13 : decode cX7_records 13 = .ok (.getfield 33, 3) := by decide +kernel
theorem dX7_records_16 : decode cX7_records 16 = .ok (.iload_n 1, 1) := by decide +kernel
theorem dX7_records_17 : decode cX7_records 17 = .ok (.iload_n 2, 1) := by decide +kernel
theorem dX7_records_18 : decode cX7_records 18 = .ok (.invokevirtual 174, 3) := by decide +kernel
theorem dX7_records_21 : decode cX7_records 21 = .ok (.ireturn, 1) := by decide +kernel
set_option maxRecDepth 20000 in
theorem ggX7_suspect_X4_mostWrongPin : GoodIn wsX7_suspect wsX4_mostWrongPin := goodIn_r _ [6, 7, 8, 9, 5, 10, 11, 12, 13, 14, 15, 16, 17, 18, 19, 20, 21, 22, 28, 29] (by decide +kernel) (by decide +kernel)
set_option maxRecDepth 20000 in
theorem gX7_suspect_X4_mostWrongPin : GoodIn wsX7_suspect (wsV RX7 177 RX4 yX4_mostWrongPin wsX4_mostWrongPin) := goodIn_app (goodIn_of _ (by decide +kernel)) ggX7_suspect_X4_mostWrongPin
theorem dX7_suspect_0 : decode cX7_suspect 0 = .ok (.aload_n 0, 1) := by decide +kernel
theorem dX7_suspect_1 : decode cX7_suspect 1 = .ok (.getfield 33, 3) := by decide +kernel
theorem dX7_suspect_4 : decode cX7_suspect 4 = .ok (.invokevirtual 177, 3) := by decide +kernel
theorem dX7_suspect_7 : decode cX7_suspect 7 = .ok (.ireturn, 1) := by decide +kernel
set_option maxRecDepth 20000 in
theorem ggX7_nextChange_X7_measure : GoodIn wsX7_nextChange wsX7_measure := goodIn_r _ [7, 1, 2, 8, 9, 10, 11, 12, 13, 14, 15, 16, 17, 18, 19, 20, 21, 22, 23, 24, 25, 26, 27, 28, 29, 30, 31, 32, 33, 34, 35, 36, 37, 38, 39, 40, 41, 42, 43, 44, 45, 46, 47, 48, 49, 50, 51, 52, 53, 54, 55, 56, 57, 58, 59, 60, 61, 62, 63, 64, 65, 66, 67, 68, 69, 70, 71, 72, 73, 74, 75, 76, 77, 78, 79, 80, 81, 82, 83, 84, 85, 86, 87, 88, 89, 90, 91, 92, 93, 94, 95, 96, 97, 98, 99, 100, 101, 102, 103, 104, 105, 106, 107, 108, 109, 110, 111, 112, 113, 114, 115, 116, 117, 118, 119, 120, 121, 122, 123, 124, 125, 126, 127, 128, 133, 134, 135, 136, 137, 146, 147, 148, 149, 150, 151, 152, 153, 154, 155, 156, 157, 158, 159, 160, 138, 139, 140, 141, 142, 143, 144, 145, 161] (by decide +kernel) (by decide +kernel)
set_option maxRecDepth 20000 in
theorem gX7_nextChange_X7_measure : GoodIn wsX7_nextChange (wsV RX7 119 RX7 yX7_measure wsX7_measure) := goodIn_app (goodIn_of _ (by decide +kernel)) ggX7_nextChange_X7_measure
set_option maxRecDepth 20000 in
theorem ggX7_nextChange_X7_measureOnwards : GoodIn wsX7_nextChange wsX7_measureOnwards := goodIn_r _ [132, 2, 1, 8, 9, 10, 11, 12, 13, 14, 15, 16, 17, 18, 19, 20, 21, 22, 23, 24, 25, 26, 27, 28, 29, 30, 31, 32, 33, 34, 35, 36, 37, 38, 39, 40, 41, 42, 43, 44, 45, 46, 47, 48, 49, 50, 51, 52, 53, 54, 55, 56, 57, 58, 59, 60, 61, 62, 63, 64, 65, 66, 67, 68, 69, 70, 71, 72, 73, 74, 75, 76, 77, 78, 79, 80, 81, 82, 83, 84, 85, 86, 87, 88, 89, 90, 91, 92, 93, 94, 95, 96, 97, 98, 99, 100, 101, 102, 103, 104, 105, 106, 107, 108, 109, 110, 111, 112, 113, 114, 115, 116, 117, 118, 119, 120, 121, 122, 123, 124, 125, 126, 127, 128, 133, 134, 135, 136, 137, 138, 139, 140, 141, 142, 143, 144, 145, 146, 147, 148, 149, 150, 151, 152, 153, 154, 155, 156, 157, 158, 159, 160, 161] (by decide +kernel) (by decide +kernel)
set_option maxRecDepth 20000 in
theorem gX7_nextChange_X7_measureOnwards : GoodIn wsX7_nextChange (wsV RX7 122 RX7 yX7_measureOnwards wsX7_measureOnwards) := goodIn_app (goodIn_of _ (by decide +kernel)) ggX7_nextChange_X7_measureOnwards
theorem dX7_nextChange_0 : decode cX7_nextChange 0 = .ok (.aload_n 0, 1) := by decide +kernel
theorem dX7_nextChange_1 : decode cX7_nextChange 1 = .ok (.invokevirtual 119, 3) := by decide +kernel
theorem dX7_nextChange_4 : decode cX7_nextChange 4 = .ok (.aload_n 0, 1) := by decide +kernel
theorem dX7_nextChange_5 : decode cX7_nextChange 5 = .ok (.getfield 19, 3) := by decide +kernel
theorem dX7_nextChange_8 : decode cX7_nextChange 8 = .ok (.getfield 125, 3) := by decide +kernel
theorem dX7_nextChange_11 : decode cX7_nextChange 11 = .ok (.istore_n 1, 1) := by decide +kernel
theorem dX7_nextChange_12 : decode cX7_nextChange 12 = .ok (.iconst 1, 1) := by decide +kernel
theorem dX7_nextChange_13 : decode cX7_nextChange 13 = .ok (.istore_n 2, 1) := by decide +kernel
theorem dX7_nextChange_14 : decode cX7_nextChange 14 = .ok (.iload_n 2, 1) := by decide +kernel
theorem dX7_nextChange_15 : decode cX7_nextChange 15 = .ok (.bipush 100, 2) := by decide +kernel
theorem dX7_nextChange_17 : decode cX7_nextChange 17 = .ok (.if_icmp .gt 35, 3) := by decide +kernel
theorem dX7_nextChange_20 : decode cX7_nextChange 20 = .ok (.aload_n 0, 1) := by decide +kernel
theorem dX7_nextChange_21 : decode cX7_nextChange 21 = .ok (.aload_n 0, 1) := by decide +kernel
theorem dX7_nextChange_22 : decode cX7_nextChange 22 = .ok (.getfield 10, 3) := by decide +kernel
theorem dX7_nextChange_25 : decode cX7_nextChange 25 = .ok (.getfield 108, 3) := by decide +kernel
theorem dX7_nextChange_28 : decode cX7_nextChange 28 = .ok (.iload_n 2, 1) := by decide +kernel
theorem dX7_nextChange_29 : decode cX7_nextChange 29 = .ok (.iadd, 1) := by decide +kernel
theorem dX7_nextChange_30 : decode cX7_nextChange 30 = .ok (.invokevirtual 122, 3) := by decide +kernel
theorem dX7_nextChange_33 : decode cX7_nextChange 33 = .ok (.aload_n 0, 1) := by decide +kernel
theorem dX7_nextChange_34 : decode cX7_nextChange 34 = .ok (.getfield 19, 3) := by decide +kernel
theorem dX7_nextChange_37 : decode cX7_nextChange 37 = .ok (.getfield 125, 3) := by decide +kernel
theorem dX7_nextChange_40 : decode cX7_nextChange 40 = .ok (.iload_n 1, 1) := by decide +kernel
theorem dX7_nextChange_41 : decode cX7_nextChange 41 = .ok (.if_icmp .eq 5, 3) := by decide +kernel
theorem dX7_nextChange_44 : decode cX7_nextChange 44 = .ok (.iload_n 2, 1) := by decide +kernel
theorem dX7_nextChange_45 : decode cX7_nextChange 45 = .ok (.ireturn, 1) := by decide +kernel
theorem dX7_nextChange_46 : decode cX7_nextChange 46 = .ok (.iinc 2 1, 3) := by decide +kernel
theorem dX7_nextChange_49 : decode cX7_nextChange 49 = .ok (.goto (-35), 3) := by decide +kernel
theorem dX7_nextChange_52 : decode cX7_nextChange 52 = .ok (.iconst (-1), 1) := by decide +kernel
theorem dX7_nextChange_53 : decode cX7_nextChange 53 = .ok (.ireturn, 1) := by decide +kernel
set_option maxRecDepth 20000 in
theorem ggX7_explain_X7_needRange : GoodIn wsX7_explain wsX7_needRange := goodIn_ca (goodIn_r _ [6, 7, 8] (by decide +kernel) (by decide +kernel)) (goodIn_sub (fun _ h => List.mem_cons_of_mem _ (List.mem_append_right _ h)) (by decide +kernel))
set_option maxRecDepth 20000 in
theorem gX7_explain_X7_needRange : GoodIn wsX7_explain (va_wsS RX7 48 yX7_needRange wsX7_needRange) := goodIn_app (goodIn_of _ (by decide +kernel)) ggX7_explain_X7_needRange
set_option maxRecDepth 20000 in
theorem ggX7_explain_X7_measure : GoodIn wsX7_explain wsX7_measure := goodIn_r _ [12, 2, 13, 14, 15, 16, 17, 18, 19, 20, 21, 22, 23, 24, 25, 26, 27, 28, 29, 30, 31, 32, 33, 34, 35, 36, 37, 38, 39, 40, 41, 42, 43, 44, 45, 46, 47, 48, 49, 50, 51, 52, 53, 54, 55, 56, 57, 58, 59, 60, 61, 62, 63, 64, 65, 66, 67, 68, 69, 70, 71, 72, 73, 74, 75, 76, 77, 78, 79, 80, 81, 82, 83, 84, 85, 86, 87, 88, 89, 90, 91, 92, 93, 94, 95, 96, 97, 98, 99, 100, 101, 102, 103, 104, 105, 106, 107, 108, 109, 110, 111, 112, 113, 114, 115, 116, 117, 118, 119, 120, 121, 122, 123, 124, 125, 126, 127, 128, 129, 130, 131, 132, 133, 134, 203, 204, 205, 206, 207, 208, 209, 210, 211, 212, 213, 214, 215, 216, 217, 218, 219, 220, 221, 222, 223, 224, 225, 226, 227, 228, 229, 230, 231] (by decide +kernel) (by decide +kernel)
set_option maxRecDepth 20000 in
theorem gX7_explain_X7_measure : GoodIn wsX7_explain (wsV RX7 119 RX7 yX7_measure wsX7_measure) := goodIn_app (goodIn_of _ (by decide +kernel)) ggX7_explain_X7_measure
set_option maxRecDepth 20000 in
theorem ggX7_explain_X1_findBest : GoodIn wsX7_explain wsX1_findBest := goodIn_r _ [139, 140, 141, 142, 143, 138, 144, 145, 146, 147, 125, 126, 54, 127, 120, 121, 122, 123, 106, 148, 129, 130, 131, 132, 133, 134, 149, 117, 118, 119, 150, 151, 152, 153, 154, 155, 156, 157, 158, 159, 160, 161, 162, 163, 232, 233, 234, 235, 236, 223, 224, 225, 226, 227, 228, 229, 230] (by decide +kernel) (by decide +kernel)
set_option maxRecDepth 20000 in
theorem gX7_explain_X1_findBest : GoodIn wsX7_explain (wsV RX7 180 RX1 yX1_findBest wsX1_findBest) := goodIn_app (goodIn_of _ (by decide +kernel)) ggX7_explain_X1_findBest
set_option maxRecDepth 20000 in
theorem ggX7_explain_X7_explanationNumber : GoodIn wsX7_explain wsX7_explanationNumber := goodIn_r _ [167, 1, 2, 13, 168, 169, 170, 138, 171, 145, 155, 172, 173, 174, 54, 175, 106, 176, 177, 178, 179, 180, 181, 182, 183, 120, 121, 122, 123, 128, 129, 130, 131, 132, 133, 134, 184, 185, 186, 187, 140, 188, 189, 190, 17, 191, 192, 193, 79, 80, 81, 82, 83, 194, 195, 196, 197, 198, 199, 200, 201, 100, 202, 89, 90, 91, 92, 93, 94, 95, 203, 204, 205, 206, 207, 232, 233, 234, 235, 236, 223, 224, 225, 226, 227, 228, 229, 230, 208, 209, 210, 211, 212, 213, 214, 231] (by decide +kernel) (by decide +kernel)
set_option maxRecDepth 20000 in
theorem gX7_explain_X7_explanationNumber : GoodIn wsX7_explain (wsV RX7 184 RX7 yX7_explanationNumber wsX7_explanationNumber) := goodIn_app (goodIn_of _ (by decide +kernel)) ggX7_explain_X7_explanationNumber
theorem dX7_explain_0 : decode cX7_explain 0 = .ok (.iload_n 1, 1) := by decide +kernel
theorem dX7_explain_1 : decode cX7_explain 1 = .ok (.iconst 0, 1) := by decide +kernel
theorem dX7_explain_2 : decode cX7_explain 2 = .ok (.iconst 4, 1) := by decide +kernel
theorem dX7_explain_3 : decode cX7_explain 3 = .ok (.invokestatic 48, 3) := by decide +kernel
theorem dX7_explain_6 : decode cX7_explain 6 = .ok (.aload_n 0, 1) := by decide +kernel
theorem dX7_explain_7 : decode cX7_explain 7 = .ok (.invokevirtual 119, 3) := by decide +kernel
theorem dX7_explain_10 : decode cX7_explain 10 = .ok (.aload_n 0, 1) := by decide +kernel
theorem dX7_explain_11 : decode cX7_explain 11 = .ok (.getfield 26, 3) := by decide +kernel
theorem dX7_explain_14 : decode cX7_explain 14 = .ok (.aload_n 0, 1) := by decide +kernel
theorem dX7_explain_15 : decode cX7_explain 15 = .ok (.getfield 19, 3) := by decide +kernel
theorem dX7_explain_18 : decode cX7_explain 18 = .ok (.invokevirtual 180, 3) := by decide +kernel
theorem dX7_explain_21 : decode cX7_explain 21 = .ok (.aload_n 0, 1) := by decide +kernel
theorem dX7_explain_22 : decode cX7_explain 22 = .ok (.iload_n 1, 1) := by decide +kernel
theorem dX7_explain_23 : decode cX7_explain 23 = .ok (.invokevirtual 184, 3) := by decide +kernel
theorem dX7_explain_26 : decode cX7_explain 26 = .ok (.ireturn, 1) := by decide +kernel
set_option maxRecDepth 20000 in
theorem ggX7_explained_X7_needIndex : GoodIn wsX7_explained wsX7_needIndex := goodIn_ca (goodIn_r _ [6, 7, 8] (by decide +kernel) (by decide +kernel)) (goodIn_sub (fun _ h => List.mem_cons_of_mem _ (List.mem_append_right _ h)) (by decide +kernel))
set_option maxRecDepth 20000 in
theorem gX7_explained_X7_needIndex : GoodIn wsX7_explained (va_wsS RX7 66 yX7_needIndex wsX7_needIndex) := goodIn_app (goodIn_of _ (by decide +kernel)) ggX7_explained_X7_needIndex
set_option maxRecDepth 20000 in
theorem ggX7_explained_X7_measure : GoodIn wsX7_explained wsX7_measure := goodIn_r _ [12, 2, 13, 14, 15, 16, 17, 18, 19, 20, 21, 22, 23, 24, 25, 26, 27, 28, 29, 30, 31, 32, 33, 34, 35, 36, 37, 38, 39, 40, 41, 42, 43, 44, 45, 46, 47, 48, 49, 50, 51, 52, 53, 54, 55, 56, 57, 58, 59, 60, 61, 62, 63, 64, 65, 66, 67, 68, 69, 70, 71, 72, 73, 74, 75, 76, 77, 78, 79, 80, 81, 82, 83, 84, 85, 86, 87, 88, 89, 90, 91, 92, 93, 94, 95, 96, 97, 98, 99, 100, 101, 102, 103, 104, 105, 106, 107, 108, 109, 110, 111, 112, 113, 114, 115, 116, 117, 118, 119, 120, 121, 122, 123, 124, 125, 126, 127, 128, 129, 130, 131, 132, 133, 134, 168, 169, 170, 171, 172, 173, 174, 175, 176, 177, 178, 179, 180, 181, 182, 183, 184, 185, 186, 187, 188, 189, 190, 191, 192, 193, 194, 195, 196] (by decide +kernel) (by decide +kernel)
set_option maxRecDepth 20000 in
theorem gX7_explained_X7_measure : GoodIn wsX7_explained (wsV RX7 119 RX7 yX7_measure wsX7_measure) := goodIn_app (goodIn_of _ (by decide +kernel)) ggX7_explained_X7_measure
set_option maxRecDepth 20000 in
theorem ggX7_explained_X1_findBest : GoodIn wsX7_explained wsX1_findBest := goodIn_r _ [139, 140, 141, 142, 143, 138, 144, 145, 146, 147, 125, 126, 54, 127, 120, 121, 122, 123, 106, 148, 129, 130, 131, 132, 133, 134, 149, 117, 118, 119, 150, 151, 152, 153, 154, 155, 156, 157, 158, 159, 160, 161, 162, 163, 197, 198, 199, 200, 201, 188, 189, 190, 191, 192, 193, 194, 195] (by decide +kernel) (by decide +kernel)
set_option maxRecDepth 20000 in
theorem gX7_explained_X1_findBest : GoodIn wsX7_explained (wsV RX7 180 RX1 yX1_findBest wsX1_findBest) := goodIn_app (goodIn_of _ (by decide +kernel)) ggX7_explained_X1_findBest
set_option maxRecDepth 20000 in
theorem ggX7_explained_X1_farPinFor : GoodIn wsX7_explained wsX1_farPinFor := goodIn_r _ [167, 155, 197, 198, 199, 200, 201] (by decide +kernel) (by decide +kernel)
set_option maxRecDepth 20000 in
theorem gX7_explained_X1_farPinFor : GoodIn wsX7_explained (wsV RX7 187 RX1 yX1_farPinFor wsX1_farPinFor) := goodIn_app (goodIn_of _ (by decide +kernel)) ggX7_explained_X1_farPinFor
theorem dX7_explained_0 : decode cX7_explained 0 = .ok (.iload_n 1, 1) := by decide +kernel
theorem dX7_explained_1 : decode cX7_explained 1 = .ok (.bipush 8, 2) := by decide +kernel
theorem dX7_explained_3 : decode cX7_explained 3 = .ok (.invokestatic 66, 3) := by decide +kernel
theorem dX7_explained_6 : decode cX7_explained 6 = .ok (.aload_n 0, 1) := by decide +kernel
theorem dX7_explained_7 : decode cX7_explained 7 = .ok (.invokevirtual 119, 3) := by decide +kernel
theorem dX7_explained_10 : decode cX7_explained 10 = .ok (.aload_n 0, 1) := by decide +kernel
theorem dX7_explained_11 : decode cX7_explained 11 = .ok (.getfield 26, 3) := by decide +kernel
theorem dX7_explained_14 : decode cX7_explained 14 = .ok (.aload_n 0, 1) := by decide +kernel
theorem dX7_explained_15 : decode cX7_explained 15 = .ok (.getfield 19, 3) := by decide +kernel
theorem dX7_explained_18 : decode cX7_explained 18 = .ok (.invokevirtual 180, 3) := by decide +kernel
theorem dX7_explained_21 : decode cX7_explained 21 = .ok (.aload_n 0, 1) := by decide +kernel
theorem dX7_explained_22 : decode cX7_explained 22 = .ok (.getfield 26, 3) := by decide +kernel
theorem dX7_explained_25 : decode cX7_explained 25 = .ok (.iload_n 1, 1) := by decide +kernel
theorem dX7_explained_26 : decode cX7_explained 26 = .ok (.invokevirtual 187, 3) := by decide +kernel
theorem dX7_explained_29 : decode cX7_explained 29 = .ok (.ireturn, 1) := by decide +kernel
set_option maxRecDepth 20000 in
theorem ggX7_count_X7_needRange : GoodIn wsX7_count wsX7_needRange := goodIn_ca (goodIn_r _ [4, 5, 6] (by decide +kernel) (by decide +kernel)) (goodIn_sub (fun _ h => List.mem_cons_of_mem _ (List.mem_append_right _ h)) (by decide +kernel))
set_option maxRecDepth 20000 in
theorem gX7_count_X7_needRange : GoodIn wsX7_count (va_wsS RX7 48 yX7_needRange wsX7_needRange) := goodIn_app (goodIn_of _ (by decide +kernel)) ggX7_count_X7_needRange
set_option maxRecDepth 20000 in
theorem ggX7_count_X7_measure : GoodIn wsX7_count wsX7_measure := goodIn_r _ [10, 11, 12, 13, 14, 15, 16, 17, 18, 19, 20, 21, 22, 23, 24, 25, 26, 27, 28, 29, 30, 31, 32, 33, 34, 35, 36, 37, 38, 39, 40, 41, 42, 43, 44, 45, 46, 47, 48, 49, 50, 51, 52, 53, 54, 55, 56, 57, 58, 59, 60, 61, 62, 63, 64, 65, 66, 67, 68, 69, 70, 71, 72, 73, 74, 75, 76, 77, 78, 79, 80, 81, 82, 83, 84, 85, 86, 87, 88, 89, 90, 91, 92, 93, 94, 95, 96, 97, 98, 99, 100, 101, 102, 103, 104, 105, 106, 107, 108, 109, 110, 111, 112, 113, 114, 115, 116, 117, 118, 119, 120, 121, 122, 123, 124, 125, 126, 127, 128, 129, 130, 131, 132, 133, 157, 158, 159, 160, 161, 162, 163, 164, 165, 166, 167, 168, 169, 170, 171, 172, 173, 174, 175, 176, 177, 178, 179, 180, 181, 182, 183, 184, 185] (by decide +kernel) (by decide +kernel)
set_option maxRecDepth 20000 in
theorem gX7_count_X7_measure : GoodIn wsX7_count (wsV RX7 119 RX7 yX7_measure wsX7_measure) := goodIn_app (goodIn_of _ (by decide +kernel)) ggX7_count_X7_measure
set_option maxRecDepth 20000 in
theorem ggX7_count_X7_numberOf : GoodIn wsX7_count wsX7_numberOf := goodIn_r _ [137, 12, 11, 138, 21, 22, 23, 24, 25, 139, 128, 129, 130, 131, 132, 133, 140, 141, 142, 53, 143, 144, 145, 146, 147, 119, 120, 121, 122, 105, 148, 149, 150, 16, 151, 152, 153, 154, 155, 156, 96, 97, 98, 99, 157, 158, 159, 160, 161, 162, 163, 164, 165, 166, 167, 168, 177, 178, 179, 180, 181, 182, 183, 184, 169, 170, 171] (by decide +kernel) (by decide +kernel)
set_option maxRecDepth 20000 in
theorem gX7_count_X7_numberOf : GoodIn wsX7_count (wsV RX7 190 RX7 yX7_numberOf wsX7_numberOf) := goodIn_app (goodIn_of _ (by decide +kernel)) ggX7_count_X7_numberOf
theorem dX7_count_0 : decode cX7_count 0 = .ok (.iload_n 1, 1) := by decide +kernel
theorem dX7_count_1 : decode cX7_count 1 = .ok (.iconst 0, 1) := by decide +kernel
theorem dX7_count_2 : decode cX7_count 2 = .ok (.bipush 8, 2) := by decide +kernel
theorem dX7_count_4 : decode cX7_count 4 = .ok (.invokestatic 48, 3) := by decide +kernel
theorem dX7_count_7 : decode cX7_count 7 = .ok (.aload_n 0, 1) := by decide +kernel
theorem dX7_count_8 : decode cX7_count 8 = .ok (.invokevirtual 119, 3) := by decide +kernel
theorem dX7_count_11 : decode cX7_count 11 = .ok (.aload_n 0, 1) := by decide +kernel
theorem dX7_count_12 : decode cX7_count 12 = .ok (.iload_n 1, 1) := by decide +kernel
theorem dX7_count_13 : decode cX7_count 13 = .ok (.invokevirtual 190, 3) := by decide +kernel
theorem dX7_count_16 : decode cX7_count 16 = .ok (.ireturn, 1) := by decide +kernel
set_option maxRecDepth 20000 in
theorem ggX7_fault_Jx4a65c_size_8abf5 : GoodIn wsX7_fault wsJx4a65c_size_8abf5 := goodIn_r _ [7, 8, 67, 68, 69] (by decide +kernel) (by decide +kernel)
set_option maxRecDepth 20000 in
theorem gX7_fault_Jx4a65c_size_8abf5 : GoodIn wsX7_fault (wsV RX7 95 RJx4a65c yJx4a65c_size_8abf5 wsJx4a65c_size_8abf5) := goodIn_app (goodIn_of _ (by decide +kernel)) ggX7_fault_Jx4a65c_size_8abf5
set_option maxRecDepth 20000 in
theorem ggX7_fault_X7_needIndex : GoodIn wsX7_fault wsX7_needIndex := goodIn_ca (goodIn_r _ [12, 13, 14] (by decide +kernel) (by decide +kernel)) (goodIn_sub (fun _ h => List.mem_cons_of_mem _ (List.mem_append_left _ (List.mem_append_right _ h))) (by decide +kernel))
set_option maxRecDepth 20000 in
theorem gX7_fault_X7_needIndex : GoodIn wsX7_fault (va_wsS RX7 66 yX7_needIndex wsX7_needIndex) := goodIn_app (goodIn_of _ (by decide +kernel)) ggX7_fault_X7_needIndex
set_option maxRecDepth 20000 in
theorem ggX7_fault_X7_needRange : GoodIn wsX7_fault wsX7_needRange := goodIn_ca (goodIn_r _ [17, 18, 19] (by decide +kernel) (by decide +kernel)) (goodIn_sub (fun _ h => List.mem_cons_of_mem _ (List.mem_append_right _ h)) (by decide +kernel))
set_option maxRecDepth 20000 in
theorem gX7_fault_X7_needRange : GoodIn wsX7_fault (va_wsS RX7 48 yX7_needRange wsX7_needRange) := goodIn_app (goodIn_of _ (by decide +kernel)) ggX7_fault_X7_needRange
set_option maxRecDepth 20000 in
theorem ggX7_fault_Jx4a65c_get_915e3 : GoodIn wsX7_fault wsJx4a65c_get_915e3 := goodIn_r _ [23, 8, 24, 25, 26, 27, 28, 29, 30, 31, 32, 33, 34, 6, 35, 36, 67, 68, 69] (by decide +kernel) (by decide +kernel)
set_option maxRecDepth 20000 in
theorem gX7_fault_Jx4a65c_get_915e3 : GoodIn wsX7_fault (wsV RX7 193 RJx4a65c yJx4a65c_get_915e3 wsJx4a65c_get_915e3) := goodIn_app (goodIn_of _ (by decide +kernel)) ggX7_fault_Jx4a65c_get_915e3
set_option maxRecDepth 20000 in
theorem ggX7_fault_X2_property : GoodIn wsX7_fault wsX2_property := goodIn_r _ [41, 42, 43, 44, 45, 46, 47, 48, 49, 40, 50, 51, 52, 53, 54, 70, 71, 72, 73, 74] (by decide +kernel) (by decide +kernel)
set_option maxRecDepth 20000 in
theorem gX7_fault_X2_property : GoodIn wsX7_fault (wsV RX7 196 RX2 yX2_property wsX2_property) := goodIn_app (goodIn_of _ (by decide +kernel)) ggX7_fault_X2_property
theorem dX7_fault_0 : decode cX7_fault 0 = .ok (.iload_n 1, 1) := by decide +kernel
theorem dX7_fault_1 : decode cX7_fault 1 = .ok (.aload_n 0, 1) := by decide +kernel
theorem dX7_fault_2 : decode cX7_fault 2 = .ok (.getfield 10, 3) := by decide +kernel
theorem dX7_fault_5 : decode cX7_fault 5 = .ok (.getfield 91, 3) := by decide +kernel
theorem dX7_fault_8 : decode cX7_fault 8 = .ok (.invokevirtual 95, 3) := by decide +kernel
theorem dX7_fault_11 : decode cX7_fault 11 = .ok (.invokestatic 66, 3) := by decide +kernel
theorem dX7_fault_14 : decode cX7_fault 14 = .ok (.iload_n 2, 1) := by decide +kernel
theorem dX7_fault_15 : decode cX7_fault 15 = .ok (.iconst 0, 1) := by decide +kernel
theorem dX7_fault_16 : decode cX7_fault 16 = .ok (.bipush 6, 2) := by decide +kernel
theorem dX7_fault_18 : decode cX7_fault 18 = .ok (.invokestatic 48, 3) := by decide +kernel
theorem dX7_fault_21 : decode cX7_fault 21 = .ok (.aload_n 0, 1) := by decide +kernel
theorem dX7_fault_22 : decode cX7_fault 22 = .ok (.getfield 10, 3) := by decide +kernel
theorem dX7_fault_25 : decode cX7_fault 25 = .ok (.getfield 91, 3) := by decide +kernel
theorem dX7_fault_28 : decode cX7_fault 28 = .ok (.iload_n 1, 1) := by decide +kernel
theorem dX7_fault_29 : decode cX7_fault 29 = .ok (.invokevirtual 193, 3) := by decide +kernel
theorem dX7_fault_32 : decode cX7_fault 32 = .ok (.checkcast 82, 3) := by decide +kernel
theorem dX7_fault_35 : decode cX7_fault 35 = .ok (.iload_n 2, 1) := by decide +kernel
theorem dX7_fault_36 : decode cX7_fault 36 = .ok (.aload_n 0, 1) := by decide +kernel
theorem dX7_fault_37 : decode cX7_fault 37 = .ok (.getfield 10, 3) := by decide +kernel
theorem dX7_fault_40 : decode cX7_fault 40 = .ok (.getfield 108, 3) := by decide +kernel
theorem dX7_fault_43 : decode cX7_fault 43 = .ok (.invokevirtual 196, 3) := by decide +kernel
theorem dX7_fault_46 : decode cX7_fault 46 = .ok (.ireturn, 1) := by decide +kernel
set_option maxRecDepth 20000 in
theorem ggX7_wire_X7_needEnd : GoodIn wsX7_wire wsX7_needEnd := goodIn_ca (goodIn_r _ [5, 6, 7, 4, 8, 9, 10] (by decide +kernel) (by decide +kernel)) (goodIn_sub (fun _ h => List.mem_cons_of_mem _ (List.mem_append_left _ (List.mem_append_right _ h))) (by decide +kernel))
set_option maxRecDepth 20000 in
theorem gX7_wire_X7_needEnd : GoodIn wsX7_wire (va_wsS RX7 59 yX7_needEnd wsX7_needEnd) := goodIn_app (goodIn_of _ (by decide +kernel)) ggX7_wire_X7_needEnd
set_option maxRecDepth 20000 in
theorem ggX7_wire_X7_needIndex : GoodIn wsX7_wire wsX7_needIndex := goodIn_ca (goodIn_r _ [13, 14, 15] (by decide +kernel) (by decide +kernel)) (goodIn_sub (fun _ h => List.mem_cons_of_mem _ (List.mem_append_right _ h)) (by decide +kernel))
set_option maxRecDepth 20000 in
theorem gX7_wire_X7_needIndex : GoodIn wsX7_wire (va_wsS RX7 66 yX7_needIndex wsX7_needIndex) := goodIn_app (goodIn_of _ (by decide +kernel)) ggX7_wire_X7_needIndex
set_option maxRecDepth 20000 in
theorem ggX7_wire_X0_wireAt : GoodIn wsX7_wire wsX0_wireAt := goodIn_r _ [20, 21, 27, 28, 29, 30, 31, 32, 33] (by decide +kernel) (by decide +kernel)
set_option maxRecDepth 20000 in
theorem gX7_wire_X0_wireAt : GoodIn wsX7_wire (wsV RX7 72 RX0 yX0_wireAt wsX0_wireAt) := goodIn_app (goodIn_of _ (by decide +kernel)) ggX7_wire_X0_wireAt
theorem dX7_wire_0 : decode cX7_wire 0 = .ok (.iload_n 1, 1) := by decide +kernel
theorem dX7_wire_1 : decode cX7_wire 1 = .ok (.invokestatic 59, 3) := by decide +kernel
theorem dX7_wire_4 : decode cX7_wire 4 = .ok (.iload_n 2, 1) := by decide +kernel
theorem dX7_wire_5 : decode cX7_wire 5 = .ok (.bipush 8, 2) := by decide +kernel
theorem dX7_wire_7 : decode cX7_wire 7 = .ok (.invokestatic 66, 3) := by decide +kernel
theorem dX7_wire_10 : decode cX7_wire 10 = .ok (.aload_n 0, 1) := by decide +kernel
theorem dX7_wire_11 : decode cX7_wire 11 = .ok (.getfield 10, 3) := by decide +kernel
theorem dX7_wire_14 : decode cX7_wire 14 = .ok (.iload_n 1, 1) := by decide +kernel
theorem dX7_wire_15 : decode cX7_wire 15 = .ok (.iload_n 2, 1) := by decide +kernel
theorem dX7_wire_16 : decode cX7_wire 16 = .ok (.invokevirtual 72, 3) := by decide +kernel
theorem dX7_wire_19 : decode cX7_wire 19 = .ok (.ireturn, 1) := by decide +kernel
set_option maxRecDepth 20000 in
theorem ggX7_wrongShare_X4_shareOfWrong : GoodIn wsX7_wrongShare wsX4_shareOfWrong := goodIn_r _ [6, 7, 8, 9, 10, 5, 11, 12, 13, 14, 15, 16, 17, 18, 19, 20, 21, 22, 23, 29, 30] (by decide +kernel) (by decide +kernel)
set_option maxRecDepth 20000 in
theorem gX7_wrongShare_X4_shareOfWrong : GoodIn wsX7_wrongShare (wsV RX7 199 RX4 yX4_shareOfWrong wsX4_shareOfWrong) := goodIn_app (goodIn_of _ (by decide +kernel)) ggX7_wrongShare_X4_shareOfWrong
theorem dX7_wrongShare_0 : decode cX7_wrongShare 0 = .ok (.aload_n 0, 1) := by decide +kernel
theorem dX7_wrongShare_1 : decode cX7_wrongShare 1 = .ok (.getfield 33, 3) := by decide +kernel
theorem dX7_wrongShare_4 : decode cX7_wrongShare 4 = .ok (.invokevirtual 199, 3) := by decide +kernel
theorem dX7_wrongShare_7 : decode cX7_wrongShare 7 = .ok (.dreturn, 1) := by decide +kernel
set_option maxRecDepth 20000 in
theorem ggX7_digest_X7_measure : GoodIn wsX7_digest wsX7_measure := goodIn_r _ [12, 2, 4, 13, 14, 15, 16, 17, 18, 19, 20, 21, 22, 23, 24, 25, 26, 27, 28, 29, 30, 31, 32, 33, 34, 35, 36, 37, 38, 39, 40, 41, 42, 43, 44, 45, 46, 47, 48, 49, 50, 51, 52, 53, 54, 55, 56, 57, 58, 59, 60, 61, 62, 63, 64, 65, 66, 67, 68, 69, 70, 71, 72, 73, 74, 75, 76, 77, 78, 79, 80, 81, 82, 83, 84, 85, 86, 87, 88, 89, 90, 91, 92, 93, 94, 95, 96, 97, 98, 99, 100, 101, 102, 103, 104, 105, 106, 107, 108, 109, 110, 111, 112, 113, 114, 115, 116, 117, 118, 119, 120, 121, 122, 123, 124, 125, 126, 127, 128, 129, 130, 131, 132, 133, 327, 328, 329, 330, 331, 332, 333, 334, 335, 336, 337, 338, 349, 350, 351, 352, 353, 354, 355, 356, 357, 358, 359, 360, 361, 362, 363, 364, 365] (by decide +kernel) (by decide +kernel)
set_option maxRecDepth 20000 in
theorem gX7_digest_X7_measure : GoodIn wsX7_digest (wsV RX7 119 RX7 yX7_measure wsX7_measure) := goodIn_app (goodIn_of _ (by decide +kernel)) ggX7_digest_X7_measure
set_option maxRecDepth 20000 in
theorem ggX7_digest_X1_findBest : GoodIn wsX7_digest wsX1_findBest := goodIn_r _ [138, 139, 140, 141, 142, 137, 143, 144, 145, 146, 124, 125, 53, 126, 119, 120, 121, 122, 105, 147, 128, 129, 130, 131, 132, 133, 148, 116, 117, 118, 149, 150, 151, 152, 153, 154, 155, 156, 157, 158, 159, 160, 161, 162, 366, 367, 368, 369, 370, 357, 358, 359, 360, 361, 362, 363, 364] (by decide +kernel) (by decide +kernel)
set_option maxRecDepth 20000 in
theorem gX7_digest_X1_findBest : GoodIn wsX7_digest (wsV RX7 180 RX1 yX1_findBest wsX1_findBest) := goodIn_app (goodIn_of _ (by decide +kernel)) ggX7_digest_X1_findBest
set_option maxRecDepth 20000 in
theorem ggX7_digest_X7_numberOf : GoodIn wsX7_digest wsX7_numberOf := goodIn_r _ [166, 4, 2, 167, 21, 22, 23, 24, 25, 168, 128, 129, 130, 131, 132, 133, 169, 170, 171, 53, 172, 173, 174, 175, 176, 119, 120, 121, 122, 105, 177, 178, 179, 16, 180, 181, 182, 183, 184, 185, 96, 97, 98, 99, 327, 328, 329, 330, 331, 332, 333, 334, 335, 336, 337, 338, 357, 358, 359, 360, 361, 362, 363, 364, 349, 350, 351] (by decide +kernel) (by decide +kernel)
set_option maxRecDepth 20000 in
theorem gX7_digest_X7_numberOf : GoodIn wsX7_digest (wsV RX7 190 RX7 yX7_numberOf wsX7_numberOf) := goodIn_app (goodIn_of _ (by decide +kernel)) ggX7_digest_X7_numberOf
set_option maxRecDepth 20000 in
theorem ggX7_digest_X7_mix : GoodIn wsX7_digest wsX7_mix := goodIn_r _ [188, 189] (by decide +kernel) (by decide +kernel)
set_option maxRecDepth 20000 in
theorem gX7_digest_X7_mix : GoodIn wsX7_digest (va_wsS RX7 205 yX7_mix wsX7_mix) := goodIn_app (goodIn_of _ (by decide +kernel)) ggX7_digest_X7_mix
set_option maxRecDepth 20000 in
theorem ggX7_digest_Jx4a65c_size_8abf5 : GoodIn wsX7_digest wsJx4a65c_size_8abf5 := goodIn_r _ [24, 25, 349, 350, 351] (by decide +kernel) (by decide +kernel)
set_option maxRecDepth 20000 in
theorem gX7_digest_Jx4a65c_size_8abf5 : GoodIn wsX7_digest (wsV RX7 95 RJx4a65c yJx4a65c_size_8abf5 wsJx4a65c_size_8abf5) := goodIn_app (goodIn_of _ (by decide +kernel)) ggX7_digest_Jx4a65c_size_8abf5
set_option maxRecDepth 20000 in
theorem ggX7_digest_Jx4a65c_get_915e3 : GoodIn wsX7_digest wsJx4a65c_get_915e3 := goodIn_r _ [29, 25, 30, 31, 32, 33, 34, 35, 36, 37, 38, 39, 40, 23, 41, 42, 349, 350, 351] (by decide +kernel) (by decide +kernel)
set_option maxRecDepth 20000 in
theorem gX7_digest_Jx4a65c_get_915e3 : GoodIn wsX7_digest (wsV RX7 193 RJx4a65c yJx4a65c_get_915e3 wsJx4a65c_get_915e3) := goodIn_app (goodIn_of _ (by decide +kernel)) ggX7_digest_Jx4a65c_get_915e3
set_option maxRecDepth 20000 in
theorem ggX7_digest_X2_property : GoodIn wsX7_digest wsX2_property := goodIn_r _ [194, 195, 72, 196, 48, 49, 197, 69, 70, 46, 71, 198, 44, 45, 47, 352, 353, 354, 355, 356] (by decide +kernel) (by decide +kernel)
set_option maxRecDepth 20000 in
theorem gX7_digest_X2_property : GoodIn wsX7_digest (wsV RX7 196 RX2 yX2_property wsX2_property) := goodIn_app (goodIn_of _ (by decide +kernel)) ggX7_digest_X2_property
set_option maxRecDepth 20000 in
theorem ggX7_digest_X7_mixPin : GoodIn wsX7_digest wsX7_mixPin := goodIn_r _ [202, 4, 2, 6, 1, 203, 96, 97, 16, 98, 99, 186, 187, 11, 188, 189, 204, 205, 206, 53, 207, 123, 124, 125, 126, 119, 120, 121, 122, 105, 115, 116, 117, 118, 208, 112, 113, 114, 127, 128, 129, 130, 131, 132, 133, 209, 210, 211, 212, 213, 214, 18, 19, 215, 216, 185, 217, 14, 15, 17, 20, 21, 22, 23, 24, 25, 26, 27, 28, 29, 30, 31, 32, 33, 34, 35, 36, 37, 38, 39, 40, 41, 42, 43, 44, 45, 46, 47, 48, 49, 218, 219, 220, 221, 222, 223, 224, 225, 195, 72, 226, 227, 228, 229, 196, 197, 69, 70, 71, 230, 231, 232, 233, 234, 235, 236, 237, 238, 239, 240, 241, 242, 243, 244, 245, 246, 247, 248, 249, 250, 251, 252, 253, 254, 255, 256, 257, 258, 259, 260, 261, 262, 263, 264, 265, 266, 267, 268, 269, 270, 271, 272, 273, 274, 137, 275, 154, 327, 328, 329, 330, 331, 332, 333, 334, 335, 336, 337, 338, 357, 358, 359, 360, 361, 362, 363, 364, 352, 353, 354, 355, 356, 349, 350, 351, 371, 372, 366, 367, 368, 369, 370] (by decide +kernel) (by decide +kernel)
set_option maxRecDepth 20000 in
theorem gX7_digest_X7_mixPin : GoodIn wsX7_digest (wsV RX7 209 RX7 yX7_mixPin wsX7_mixPin) := goodIn_app (goodIn_of _ (by decide +kernel)) ggX7_digest_X7_mixPin
set_option maxRecDepth 20000 in
theorem ggX7_digest_X0_crosstalkOf : GoodIn wsX7_digest wsX0_crosstalkOf := goodIn_r _ [279, 280, 281, 282, 16, 283, 99, 332, 333, 334, 335, 336, 337, 338] (by decide +kernel) (by decide +kernel)
set_option maxRecDepth 20000 in
theorem gX7_digest_X0_crosstalkOf : GoodIn wsX7_digest (wsV RX7 168 RX0 yX0_crosstalkOf wsX0_crosstalkOf) := goodIn_app (goodIn_of _ (by decide +kernel)) ggX7_digest_X0_crosstalkOf
set_option maxRecDepth 20000 in
theorem ggX7_digest_X7_identifiedUnit : GoodIn wsX7_digest wsX7_identifiedUnit := goodIn_r _ [287, 4, 2, 208, 112, 113, 53, 114, 115, 116, 117, 118, 119, 120, 121, 122, 105, 123, 124, 125, 126, 127, 128, 129, 130, 131, 132, 133, 288, 182, 183, 16, 184, 185, 96, 97, 98, 99, 327, 328, 329, 330, 331, 332, 333, 334, 335, 336, 337, 338, 357, 358, 359, 360, 361, 362, 363, 364] (by decide +kernel) (by decide +kernel)
set_option maxRecDepth 20000 in
theorem gX7_digest_X7_identifiedUnit : GoodIn wsX7_digest (wsV RX7 171 RX7 yX7_identifiedUnit wsX7_identifiedUnit) := goodIn_app (goodIn_of _ (by decide +kernel)) ggX7_digest_X7_identifiedUnit
set_option maxRecDepth 20000 in
theorem ggX7_digest_X4_mostWrongPin : GoodIn wsX7_digest wsX4_mostWrongPin := goodIn_r _ [292, 240, 241, 242, 237, 243, 244, 245, 246, 247, 248, 249, 250, 251, 252, 253, 254, 255, 371, 372] (by decide +kernel) (by decide +kernel)
set_option maxRecDepth 20000 in
theorem gX7_digest_X4_mostWrongPin : GoodIn wsX7_digest (wsV RX7 177 RX4 yX4_mostWrongPin wsX4_mostWrongPin) := goodIn_app (goodIn_of _ (by decide +kernel)) ggX7_digest_X4_mostWrongPin
set_option maxRecDepth 20000 in
theorem ggX7_digest_X7_explanationNumber : GoodIn wsX7_digest wsX7_explanationNumber := goodIn_r _ [296, 1, 2, 4, 297, 298, 299, 137, 300, 144, 154, 301, 302, 303, 53, 304, 105, 305, 306, 307, 308, 173, 174, 175, 176, 119, 120, 121, 122, 127, 128, 129, 130, 131, 132, 133, 309, 310, 311, 312, 139, 313, 314, 315, 16, 316, 317, 318, 78, 79, 80, 81, 82, 319, 277, 278, 279, 280, 281, 282, 283, 99, 320, 88, 89, 90, 91, 92, 93, 94, 327, 328, 329, 330, 331, 366, 367, 368, 369, 370, 357, 358, 359, 360, 361, 362, 363, 364, 332, 333, 334, 335, 336, 337, 338, 365] (by decide +kernel) (by decide +kernel)
set_option maxRecDepth 20000 in
theorem gX7_digest_X7_explanationNumber : GoodIn wsX7_digest (wsV RX7 184 RX7 yX7_explanationNumber wsX7_explanationNumber) := goodIn_app (goodIn_of _ (by decide +kernel)) ggX7_digest_X7_explanationNumber
set_option maxRecDepth 20000 in
theorem ggX7_digest_X6_codeAt : GoodIn wsX7_digest wsX6_codeAt := goodIn_r _ [325, 326, 339, 340, 341, 342, 343, 344, 345, 346, 347, 348] (by decide +kernel) (by decide +kernel)
set_option maxRecDepth 20000 in
theorem gX7_digest_X6_codeAt : GoodIn wsX7_digest (wsV RX7 212 RX6 yX6_codeAt wsX6_codeAt) := goodIn_app (goodIn_of _ (by decide +kernel)) ggX7_digest_X6_codeAt
theorem dX7_digest_0 : decode cX7_digest 0 = .ok (.aload_n 0, 1) := by decide +kernel
theorem dX7_digest_1 : decode cX7_digest 1 = .ok (.invokevirtual 119, 3) := by decide +kernel
theorem dX7_digest_4 : decode cX7_digest 4 = .ok (.aload_n 0, 1) := by decide +kernel
theorem dX7_digest_5 : decode cX7_digest 5 = .ok (.getfield 26, 3) := by decide +kernel
theorem dX7_digest_8 : decode cX7_digest 8 = .ok (.aload_n 0, 1) := by decide +kernel
theorem dX7_digest_9 : decode cX7_digest 9 = .ok (.getfield 19, 3) := by decide +kernel
theorem dX7_digest_12 : decode cX7_digest 12 = .ok (.invokevirtual 180, 3) := by decide +kernel
theorem dX7_digest_15 : decode cX7_digest 15 = .ok (.ldc2_w 203, 3) := by decide +kernel
theorem dX7_digest_18 : decode cX7_digest 18 = .ok (.lstore_n 1, 1) := by decide +kernel
theorem dX7_digest_19 : decode cX7_digest 19 = .ok (.iconst 0, 1) := by decide +kernel
theorem dX7_digest_20 : decode cX7_digest 20 = .ok (.istore_n 3, 1) := by decide +kernel
theorem dX7_digest_21 : decode cX7_digest 21 = .ok (.iload_n 3, 1) := by decide +kernel
theorem dX7_digest_22 : decode cX7_digest 22 = .ok (.bipush 8, 2) := by decide +kernel
theorem dX7_digest_24 : decode cX7_digest 24 = .ok (.if_icmp .gt 19, 3) := by decide +kernel
theorem dX7_digest_27 : decode cX7_digest 27 = .ok (.lload_n 1, 1) := by decide +kernel
theorem dX7_digest_28 : decode cX7_digest 28 = .ok (.aload_n 0, 1) := by decide +kernel
theorem dX7_digest_29 : decode cX7_digest 29 = .ok (.iload_n 3, 1) := by decide +kernel
theorem dX7_digest_30 : decode cX7_digest 30 = .ok (.invokevirtual 190, 3) := by decide +kernel
theorem dX7_digest_33 : decode cX7_digest 33 = .ok (.invokestatic 205, 3) := by decide +kernel
theorem dX7_digest_36 : decode cX7_digest 36 = .ok (.lstore_n 1, 1) := by decide +kernel
theorem dX7_digest_37 : decode cX7_digest 37 = .ok (.iinc 3 1, 3) := by decide +kernel
theorem dX7_digest_40 : decode cX7_digest 40 = .ok (.goto (-19), 3) := by decide +kernel
theorem dX7_digest_43 : decode cX7_digest 43 = .ok (.iconst 0, 1) := by decide +kernel
theorem dX7_digest_44 : decode cX7_digest 44 = .ok (.istore_n 3, 1) := by decide +kernel
theorem dX7_digest_45 : decode cX7_digest 45 = .ok (.iload_n 3, 1) := by decide +kernel
theorem dX7_digest_46 : decode cX7_digest 46 = .ok (.aload_n 0, 1) := by decide +kernel
theorem dX7_digest_47 : decode cX7_digest 47 = .ok (.getfield 10, 3) := by decide +kernel
theorem dX7_digest_50 : decode cX7_digest 50 = .ok (.getfield 91, 3) := by decide +kernel
theorem dX7_digest_53 : decode cX7_digest 53 = .ok (.invokevirtual 95, 3) := by decide +kernel
theorem dX7_digest_56 : decode cX7_digest 56 = .ok (.if_icmp .ge 56, 3) := by decide +kernel
theorem dX7_digest_59 : decode cX7_digest 59 = .ok (.iconst 0, 1) := by decide +kernel
theorem dX7_digest_60 : decode cX7_digest 60 = .ok (.istore 4, 2) := by decide +kernel
theorem dX7_digest_62 : decode cX7_digest 62 = .ok (.iload 4, 2) := by decide +kernel
theorem dX7_digest_64 : decode cX7_digest 64 = .ok (.bipush 6, 2) := by decide +kernel
theorem dX7_digest_66 : decode cX7_digest 66 = .ok (.if_icmp .gt 40, 3) := by decide +kernel
theorem dX7_digest_69 : decode cX7_digest 69 = .ok (.lload_n 1, 1) := by decide +kernel
theorem dX7_digest_70 : decode cX7_digest 70 = .ok (.aload_n 0, 1) := by decide +kernel
theorem dX7_digest_71 : decode cX7_digest 71 = .ok (.getfield 10, 3) := by decide +kernel
theorem dX7_digest_74 : decode cX7_digest 74 = .ok (.getfield 91, 3) := by decide +kernel
theorem dX7_digest_77 : decode cX7_digest 77 = .ok (.iload_n 3, 1) := by decide +kernel
theorem dX7_digest_78 : decode cX7_digest 78 = .ok (.invokevirtual 193, 3) := by decide +kernel
theorem dX7_digest_81 : decode cX7_digest 81 = .ok (.checkcast 82, 3) := by decide +kernel
theorem dX7_digest_84 : decode cX7_digest 84 = .ok (.iload 4, 2) := by decide +kernel
theorem dX7_digest_86 : decode cX7_digest 86 = .ok (.aload_n 0, 1) := by decide +kernel
theorem dX7_digest_87 : decode cX7_digest 87 = .ok (.getfield 10, 3) := by decide +kernel
theorem dX7_digest_90 : decode cX7_digest 90 = .ok (.getfield 108, 3) := by decide +kernel
theorem dX7_digest_93 : decode cX7_digest 93 = .ok (.invokevirtual 196, 3) := by decide +kernel
theorem dX7_digest_96 : decode cX7_digest 96 = .ok (.invokestatic 205, 3) := by decide +kernel
theorem dX7_digest_99 : decode cX7_digest 99 = .ok (.lstore_n 1, 1) := by decide +kernel
theorem dX7_digest_100 : decode cX7_digest 100 = .ok (.iinc 4 1, 3) := by decide +kernel
theorem dX7_digest_103 : decode cX7_digest 103 = .ok (.goto (-41), 3) := by decide +kernel
theorem dX7_digest_106 : decode cX7_digest 106 = .ok (.iinc 3 1, 3) := by decide +kernel
theorem dX7_digest_109 : decode cX7_digest 109 = .ok (.goto (-64), 3) := by decide +kernel
theorem dX7_digest_112 : decode cX7_digest 112 = .ok (.iconst 0, 1) := by decide +kernel
theorem dX7_digest_113 : decode cX7_digest 113 = .ok (.istore_n 3, 1) := by decide +kernel
theorem dX7_digest_114 : decode cX7_digest 114 = .ok (.iload_n 3, 1) := by decide +kernel
theorem dX7_digest_115 : decode cX7_digest 115 = .ok (.bipush 8, 2) := by decide +kernel
theorem dX7_digest_117 : decode cX7_digest 117 = .ok (.if_icmp .ge 16, 3) := by decide +kernel
theorem dX7_digest_120 : decode cX7_digest 120 = .ok (.aload_n 0, 1) := by decide +kernel
theorem dX7_digest_121 : decode cX7_digest 121 = .ok (.lload_n 1, 1) := by decide +kernel
theorem dX7_digest_122 : decode cX7_digest 122 = .ok (.iload_n 3, 1) := by decide +kernel
theorem dX7_digest_123 : decode cX7_digest 123 = .ok (.invokevirtual 209, 3) := by decide +kernel
theorem dX7_digest_126 : decode cX7_digest 126 = .ok (.lstore_n 1, 1) := by decide +kernel
theorem dX7_digest_127 : decode cX7_digest 127 = .ok (.iinc 3 1, 3) := by decide +kernel
theorem dX7_digest_130 : decode cX7_digest 130 = .ok (.goto (-16), 3) := by decide +kernel
theorem dX7_digest_133 : decode cX7_digest 133 = .ok (.iconst 0, 1) := by decide +kernel
theorem dX7_digest_134 : decode cX7_digest 134 = .ok (.istore_n 3, 1) := by decide +kernel
theorem dX7_digest_135 : decode cX7_digest 135 = .ok (.iload_n 3, 1) := by decide +kernel
theorem dX7_digest_136 : decode cX7_digest 136 = .ok (.iconst 4, 1) := by decide +kernel
theorem dX7_digest_137 : decode cX7_digest 137 = .ok (.if_icmp .ge 41, 3) := by decide +kernel
theorem dX7_digest_140 : decode cX7_digest 140 = .ok (.iload_n 3, 1) := by decide +kernel
theorem dX7_digest_141 : decode cX7_digest 141 = .ok (.iconst 1, 1) := by decide +kernel
theorem dX7_digest_142 : decode cX7_digest 142 = .ok (.iadd, 1) := by decide +kernel
theorem dX7_digest_143 : decode cX7_digest 143 = .ok (.istore 4, 2) := by decide +kernel
theorem dX7_digest_145 : decode cX7_digest 145 = .ok (.iload 4, 2) := by decide +kernel
theorem dX7_digest_147 : decode cX7_digest 147 = .ok (.iconst 4, 1) := by decide +kernel
theorem dX7_digest_148 : decode cX7_digest 148 = .ok (.if_icmp .ge 24, 3) := by decide +kernel
theorem dX7_digest_151 : decode cX7_digest 151 = .ok (.lload_n 1, 1) := by decide +kernel
theorem dX7_digest_152 : decode cX7_digest 152 = .ok (.aload_n 0, 1) := by decide +kernel
theorem dX7_digest_153 : decode cX7_digest 153 = .ok (.getfield 10, 3) := by decide +kernel
theorem dX7_digest_156 : decode cX7_digest 156 = .ok (.iload_n 3, 1) := by decide +kernel
theorem dX7_digest_157 : decode cX7_digest 157 = .ok (.iload 4, 2) := by decide +kernel
theorem dX7_digest_159 : decode cX7_digest 159 = .ok (.invokevirtual 168, 3) := by decide +kernel
theorem dX7_digest_162 : decode cX7_digest 162 = .ok (.invokestatic 205, 3) := by decide +kernel
theorem dX7_digest_165 : decode cX7_digest 165 = .ok (.lstore_n 1, 1) := by decide +kernel
theorem dX7_digest_166 : decode cX7_digest 166 = .ok (.iinc 4 1, 3) := by decide +kernel
theorem dX7_digest_169 : decode cX7_digest 169 = .ok (.goto (-24), 3) := by decide +kernel
theorem dX7_digest_172 : decode cX7_digest 172 = .ok (.iinc 3 1, 3) := by decide +kernel
theorem dX7_digest_175 : decode cX7_digest 175 = .ok (.goto (-40), 3) := by decide +kernel
theorem dX7_digest_178 : decode cX7_digest 178 = .ok (.lload_n 1, 1) := by decide +kernel
theorem dX7_digest_179 : decode cX7_digest 179 = .ok (.aload_n 0, 1) := by decide +kernel
theorem dX7_digest_180 : decode cX7_digest 180 = .ok (.invokevirtual 171, 3) := by decide +kernel
theorem dX7_digest_183 : decode cX7_digest 183 = .ok (.invokestatic 205, 3) := by decide +kernel
theorem dX7_digest_186 : decode cX7_digest 186 = .ok (.lstore_n 1, 1) := by decide +kernel
theorem dX7_digest_187 : decode cX7_digest 187 = .ok (.lload_n 1, 1) := by decide +kernel
theorem dX7_digest_188 : decode cX7_digest 188 = .ok (.aload_n 0, 1) := by decide +kernel
theorem dX7_digest_189 : decode cX7_digest 189 = .ok (.getfield 33, 3) := by decide +kernel
theorem dX7_digest_192 : decode cX7_digest 192 = .ok (.invokevirtual 177, 3) := by decide +kernel
theorem dX7_digest_195 : decode cX7_digest 195 = .ok (.invokestatic 205, 3) := by decide +kernel
theorem dX7_digest_198 : decode cX7_digest 198 = .ok (.lstore_n 1, 1) := by decide +kernel
theorem dX7_digest_199 : decode cX7_digest 199 = .ok (.iconst 0, 1) := by decide +kernel
theorem dX7_digest_200 : decode cX7_digest 200 = .ok (.istore_n 3, 1) := by decide +kernel
theorem dX7_digest_201 : decode cX7_digest 201 = .ok (.iload_n 3, 1) := by decide +kernel
theorem dX7_digest_202 : decode cX7_digest 202 = .ok (.iconst 4, 1) := by decide +kernel
theorem dX7_digest_203 : decode cX7_digest 203 = .ok (.if_icmp .gt 19, 3) := by decide +kernel
theorem dX7_digest_206 : decode cX7_digest 206 = .ok (.lload_n 1, 1) := by decide +kernel
theorem dX7_digest_207 : decode cX7_digest 207 = .ok (.aload_n 0, 1) := by decide +kernel
theorem dX7_digest_208 : decode cX7_digest 208 = .ok (.iload_n 3, 1) := by decide +kernel
theorem dX7_digest_209 : decode cX7_digest 209 = .ok (.invokevirtual 184, 3) := by decide +kernel
theorem dX7_digest_212 : decode cX7_digest 212 = .ok (.invokestatic 205, 3) := by decide +kernel
theorem dX7_digest_215 : decode cX7_digest 215 = .ok (.lstore_n 1, 1) := by decide +kernel
theorem dX7_digest_216 : decode cX7_digest 216 = .ok (.iinc 3 1, 3) := by decide +kernel
theorem dX7_digest_219 : decode cX7_digest 219 = .ok (.goto (-18), 3) := by decide +kernel
theorem dX7_digest_222 : decode cX7_digest 222 = .ok (.lload_n 1, 1) := by decide +kernel
theorem dX7_digest_223 : decode cX7_digest 223 = .ok (.aload_n 0, 1) := by decide +kernel
theorem dX7_digest_224 : decode cX7_digest 224 = .ok (.getfield 40, 3) := by decide +kernel
theorem dX7_digest_227 : decode cX7_digest 227 = .ok (.getfield 131, 3) := by decide +kernel
theorem dX7_digest_230 : decode cX7_digest 230 = .ok (.invokestatic 205, 3) := by decide +kernel
theorem dX7_digest_233 : decode cX7_digest 233 = .ok (.lstore_n 1, 1) := by decide +kernel
theorem dX7_digest_234 : decode cX7_digest 234 = .ok (.iconst 0, 1) := by decide +kernel
theorem dX7_digest_235 : decode cX7_digest 235 = .ok (.istore_n 3, 1) := by decide +kernel
theorem dX7_digest_236 : decode cX7_digest 236 = .ok (.iload_n 3, 1) := by decide +kernel
theorem dX7_digest_237 : decode cX7_digest 237 = .ok (.aload_n 0, 1) := by decide +kernel
theorem dX7_digest_238 : decode cX7_digest 238 = .ok (.getfield 40, 3) := by decide +kernel
theorem dX7_digest_241 : decode cX7_digest 241 = .ok (.getfield 131, 3) := by decide +kernel
theorem dX7_digest_244 : decode cX7_digest 244 = .ok (.if_icmp .ge 22, 3) := by decide +kernel
theorem dX7_digest_247 : decode cX7_digest 247 = .ok (.lload_n 1, 1) := by decide +kernel
theorem dX7_digest_248 : decode cX7_digest 248 = .ok (.aload_n 0, 1) := by decide +kernel
theorem dX7_digest_249 : decode cX7_digest 249 = .ok (.getfield 40, 3) := by decide +kernel
theorem dX7_digest_252 : decode cX7_digest 252 = .ok (.iload_n 3, 1) := by decide +kernel
theorem dX7_digest_253 : decode cX7_digest 253 = .ok (.invokevirtual 212, 3) := by decide +kernel
theorem dX7_digest_256 : decode cX7_digest 256 = .ok (.invokestatic 205, 3) := by decide +kernel
theorem dX7_digest_259 : decode cX7_digest 259 = .ok (.lstore_n 1, 1) := by decide +kernel
theorem dX7_digest_260 : decode cX7_digest 260 = .ok (.iinc 3 1, 3) := by decide +kernel
theorem dX7_digest_263 : decode cX7_digest 263 = .ok (.goto (-27), 3) := by decide +kernel
theorem dX7_digest_266 : decode cX7_digest 266 = .ok (.lload_n 1, 1) := by decide +kernel
theorem dX7_digest_267 : decode cX7_digest 267 = .ok (.lreturn, 1) := by decide +kernel
theorem dX7_needIndex_0 : decode cX7_needIndex 0 = .ok (.iload_n 0, 1) := by decide +kernel
theorem dX7_needIndex_1 : decode cX7_needIndex 1 = .ok (.ifCond .lt 8, 3) := by decide +kernel
theorem dX7_needIndex_4 : decode cX7_needIndex 4 = .ok (.iload_n 0, 1) := by decide +kernel
theorem dX7_needIndex_5 : decode cX7_needIndex 5 = .ok (.iload_n 1, 1) := by decide +kernel
theorem dX7_needIndex_6 : decode cX7_needIndex 6 = .ok (.if_icmp .lt 13, 3) := by decide +kernel
theorem dX7_needIndex_9 : decode cX7_needIndex 9 = .ok (.new 215, 3) := by decide +kernel
theorem dX7_needIndex_12 : decode cX7_needIndex 12 = .ok (.dup, 1) := by decide +kernel
theorem dX7_needIndex_13 : decode cX7_needIndex 13 = .ok (.ldc 217, 2) := by decide +kernel
theorem dX7_needIndex_15 : decode cX7_needIndex 15 = .ok (.invokespecial 219, 3) := by decide +kernel
theorem dX7_needIndex_18 : decode cX7_needIndex 18 = .ok (.athrow, 1) := by decide +kernel
theorem dX7_needIndex_19 : decode cX7_needIndex 19 = .ok (.return_, 1) := by decide +kernel
theorem dX7_needRange_0 : decode cX7_needRange 0 = .ok (.iload_n 0, 1) := by decide +kernel
theorem dX7_needRange_1 : decode cX7_needRange 1 = .ok (.iload_n 1, 1) := by decide +kernel
theorem dX7_needRange_2 : decode cX7_needRange 2 = .ok (.if_icmp .lt 8, 3) := by decide +kernel
theorem dX7_needRange_5 : decode cX7_needRange 5 = .ok (.iload_n 0, 1) := by decide +kernel
theorem dX7_needRange_6 : decode cX7_needRange 6 = .ok (.iload_n 2, 1) := by decide +kernel
theorem dX7_needRange_7 : decode cX7_needRange 7 = .ok (.if_icmp .le 13, 3) := by decide +kernel
theorem dX7_needRange_10 : decode cX7_needRange 10 = .ok (.new 144, 3) := by decide +kernel
theorem dX7_needRange_13 : decode cX7_needRange 13 = .ok (.dup, 1) := by decide +kernel
theorem dX7_needRange_14 : decode cX7_needRange 14 = .ok (.ldc 220, 2) := by decide +kernel
theorem dX7_needRange_16 : decode cX7_needRange 16 = .ok (.invokespecial 148, 3) := by decide +kernel
theorem dX7_needRange_19 : decode cX7_needRange 19 = .ok (.athrow, 1) := by decide +kernel
theorem dX7_needRange_20 : decode cX7_needRange 20 = .ok (.return_, 1) := by decide +kernel
set_option maxRecDepth 20000 in
theorem ggX7_needEnd_X7_needRange : GoodIn wsX7_needEnd wsX7_needRange := goodIn_ca (goodIn_r _ [4, 5, 6] (by decide +kernel) (by decide +kernel)) (goodIn_sub (fun _ h => List.mem_cons_of_mem _ (List.mem_append_right _ h)) (by decide +kernel))
