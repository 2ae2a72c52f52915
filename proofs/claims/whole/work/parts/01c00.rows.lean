set_option maxRecDepth 20000 in
theorem ggX0_init_Jx4a65c_init_da8c8 : GoodIn wsX0_init wsJx4a65c_init_da8c8 := goodIn_r _ [16, 17, 18, 19, 20, 21, 22, 23, 24, 25, 26, 27, 28, 2, 3, 45, 46, 47] (by decide +kernel) (by decide +kernel)
set_option maxRecDepth 20000 in
theorem gX0_init_Jx4a65c_init_da8c8 : GoodIn wsX0_init (wsJx4a65c_init_da8c8) := ggX0_init_Jx4a65c_init_da8c8
set_option maxRecDepth 20000 in
theorem ggX0_init_X3_init : GoodIn wsX0_init wsX3_init := goodIn_r _ [31, 32, 2, 3, 33, 34, 35, 36, 4, 37, 48] (by decide +kernel) (by decide +kernel)
set_option maxRecDepth 20000 in
theorem gX0_init_X3_init : GoodIn wsX0_init (wsX3_init) := ggX0_init_X3_init
theorem dX0_init_0 : decode cX0_init 0 = .ok (.aload_n 0, 1) := by decide +kernel
theorem dX0_init_1 : decode cX0_init 1 = .ok (.invokespecial 3, 3) := by decide +kernel
theorem dX0_init_4 : decode cX0_init 4 = .ok (.aload_n 0, 1) := by decide +kernel
theorem dX0_init_5 : decode cX0_init 5 = .ok (.bipush 16, 2) := by decide +kernel
theorem dX0_init_7 : decode cX0_init 7 = .ok (.newarray .int, 2) := by decide +kernel
theorem dX0_init_9 : decode cX0_init 9 = .ok (.putfield 9, 3) := by decide +kernel
theorem dX0_init_12 : decode cX0_init 12 = .ok (.aload_n 0, 1) := by decide +kernel
theorem dX0_init_13 : decode cX0_init 13 = .ok (.new 15, 3) := by decide +kernel
theorem dX0_init_16 : decode cX0_init 16 = .ok (.dup, 1) := by decide +kernel
theorem dX0_init_17 : decode cX0_init 17 = .ok (.invokespecial 17, 3) := by decide +kernel
theorem dX0_init_20 : decode cX0_init 20 = .ok (.putfield 18, 3) := by decide +kernel
theorem dX0_init_23 : decode cX0_init 23 = .ok (.aload_n 0, 1) := by decide +kernel
theorem dX0_init_24 : decode cX0_init 24 = .ok (.new 22, 3) := by decide +kernel
theorem dX0_init_27 : decode cX0_init 27 = .ok (.dup, 1) := by decide +kernel
theorem dX0_init_28 : decode cX0_init 28 = .ok (.iconst 4, 1) := by decide +kernel
theorem dX0_init_29 : decode cX0_init 29 = .ok (.invokespecial 24, 3) := by decide +kernel
theorem dX0_init_32 : decode cX0_init 32 = .ok (.putfield 27, 3) := by decide +kernel
theorem dX0_init_35 : decode cX0_init 35 = .ok (.return_, 1) := by decide +kernel
set_option maxRecDepth 20000 in
theorem ggX0_lay_Jx4a65c_clear_da8c8 : GoodIn wsX0_lay wsJx4a65c_clear_da8c8 := goodIn_r _ [11, 12, 13, 14, 15, 23, 24, 25] (by decide +kernel) (by decide +kernel)
set_option maxRecDepth 20000 in
theorem gX0_lay_Jx4a65c_clear_da8c8 : GoodIn wsX0_lay (wsV RX0 44 RJx4a65c yJx4a65c_clear_da8c8 wsJx4a65c_clear_da8c8) := goodIn_app (goodIn_of _ (by decide +kernel)) ggX0_lay_Jx4a65c_clear_da8c8
theorem dX0_lay_0 : decode cX0_lay 0 = .ok (.aload_n 0, 1) := by decide +kernel
theorem dX0_lay_1 : decode cX0_lay 1 = .ok (.iload_n 1, 1) := by decide +kernel
theorem dX0_lay_2 : decode cX0_lay 2 = .ok (.putfield 31, 3) := by decide +kernel
theorem dX0_lay_5 : decode cX0_lay 5 = .ok (.aload_n 0, 1) := by decide +kernel
theorem dX0_lay_6 : decode cX0_lay 6 = .ok (.iload_n 2, 1) := by decide +kernel
theorem dX0_lay_7 : decode cX0_lay 7 = .ok (.putfield 35, 3) := by decide +kernel
theorem dX0_lay_10 : decode cX0_lay 10 = .ok (.aload_n 0, 1) := by decide +kernel
theorem dX0_lay_11 : decode cX0_lay 11 = .ok (.iconst 0, 1) := by decide +kernel
theorem dX0_lay_12 : decode cX0_lay 12 = .ok (.putfield 38, 3) := by decide +kernel
theorem dX0_lay_15 : decode cX0_lay 15 = .ok (.aload_n 0, 1) := by decide +kernel
theorem dX0_lay_16 : decode cX0_lay 16 = .ok (.iconst 0, 1) := by decide +kernel
theorem dX0_lay_17 : decode cX0_lay 17 = .ok (.putfield 41, 3) := by decide +kernel
theorem dX0_lay_20 : decode cX0_lay 20 = .ok (.iconst 0, 1) := by decide +kernel
theorem dX0_lay_21 : decode cX0_lay 21 = .ok (.istore_n 3, 1) := by decide +kernel
theorem dX0_lay_22 : decode cX0_lay 22 = .ok (.iload_n 3, 1) := by decide +kernel
theorem dX0_lay_23 : decode cX0_lay 23 = .ok (.aload_n 0, 1) := by decide +kernel
theorem dX0_lay_24 : decode cX0_lay 24 = .ok (.getfield 9, 3) := by decide +kernel
theorem dX0_lay_27 : decode cX0_lay 27 = .ok (.arraylength, 1) := by decide +kernel
theorem dX0_lay_28 : decode cX0_lay 28 = .ok (.if_icmp .ge 19, 3) := by decide +kernel
theorem dX0_lay_31 : decode cX0_lay 31 = .ok (.aload_n 0, 1) := by decide +kernel
theorem dX0_lay_32 : decode cX0_lay 32 = .ok (.getfield 9, 3) := by decide +kernel
theorem dX0_lay_35 : decode cX0_lay 35 = .ok (.iload_n 3, 1) := by decide +kernel
theorem dX0_lay_36 : decode cX0_lay 36 = .ok (.iload_n 3, 1) := by decide +kernel
theorem dX0_lay_37 : decode cX0_lay 37 = .ok (.bipush 8, 2) := by decide +kernel
theorem dX0_lay_39 : decode cX0_lay 39 = .ok (.irem, 1) := by decide +kernel
theorem dX0_lay_40 : decode cX0_lay 40 = .ok (.iastore, 1) := by decide +kernel
theorem dX0_lay_41 : decode cX0_lay 41 = .ok (.iinc 3 1, 3) := by decide +kernel
theorem dX0_lay_44 : decode cX0_lay 44 = .ok (.goto (-22), 3) := by decide +kernel
theorem dX0_lay_47 : decode cX0_lay 47 = .ok (.aload_n 0, 1) := by decide +kernel
theorem dX0_lay_48 : decode cX0_lay 48 = .ok (.getfield 18, 3) := by decide +kernel
theorem dX0_lay_51 : decode cX0_lay 51 = .ok (.invokevirtual 44, 3) := by decide +kernel
theorem dX0_lay_54 : decode cX0_lay 54 = .ok (.return_, 1) := by decide +kernel
set_option maxRecDepth 20000 in
theorem ggX0_addFault_Jx4a65c_add_9ea2d : GoodIn wsX0_addFault wsJx4a65c_add_9ea2d := goodIn_r _ [6, 7, 8, 9, 10, 11, 12, 13, 5, 14, 15, 16, 17, 18, 19, 20, 21, 22, 23, 24, 25, 26, 27, 28, 29, 30, 31, 32, 33, 34, 35, 36, 37, 38, 39, 40, 41, 42, 43, 44, 45, 46, 47, 48, 49, 50, 51, 52, 53, 54, 55, 56, 57, 69, 70, 71] (by decide +kernel) (by decide +kernel)
set_option maxRecDepth 20000 in
theorem gX0_addFault_Jx4a65c_add_9ea2d : GoodIn wsX0_addFault (wsV RX0 47 RJx4a65c yJx4a65c_add_9ea2d wsJx4a65c_add_9ea2d) := goodIn_app (goodIn_of _ (by decide +kernel)) ggX0_addFault_Jx4a65c_add_9ea2d
set_option maxRecDepth 20000 in
theorem ggX0_addFault_Jx4a65c_size_8abf5 : GoodIn wsX0_addFault wsJx4a65c_size_8abf5 := goodIn_r _ [61, 10, 69, 70, 71] (by decide +kernel) (by decide +kernel)
set_option maxRecDepth 20000 in
theorem gX0_addFault_Jx4a65c_size_8abf5 : GoodIn wsX0_addFault (wsV RX0 51 RJx4a65c yJx4a65c_size_8abf5 wsJx4a65c_size_8abf5) := goodIn_app (goodIn_of _ (by decide +kernel)) ggX0_addFault_Jx4a65c_size_8abf5
theorem dX0_addFault_0 : decode cX0_addFault 0 = .ok (.aload_n 0, 1) := by decide +kernel
theorem dX0_addFault_1 : decode cX0_addFault 1 = .ok (.getfield 18, 3) := by decide +kernel
theorem dX0_addFault_4 : decode cX0_addFault 4 = .ok (.aload_n 1, 1) := by decide +kernel
theorem dX0_addFault_5 : decode cX0_addFault 5 = .ok (.invokevirtual 47, 3) := by decide +kernel
theorem dX0_addFault_8 : decode cX0_addFault 8 = .ok (.pop, 1) := by decide +kernel
theorem dX0_addFault_9 : decode cX0_addFault 9 = .ok (.aload_n 0, 1) := by decide +kernel
theorem dX0_addFault_10 : decode cX0_addFault 10 = .ok (.getfield 18, 3) := by decide +kernel
theorem dX0_addFault_13 : decode cX0_addFault 13 = .ok (.invokevirtual 51, 3) := by decide +kernel
theorem dX0_addFault_16 : decode cX0_addFault 16 = .ok (.iconst 1, 1) := by decide +kernel
theorem dX0_addFault_17 : decode cX0_addFault 17 = .ok (.isub, 1) := by decide +kernel
theorem dX0_addFault_18 : decode cX0_addFault 18 = .ok (.ireturn, 1) := by decide +kernel
theorem dX0_wireAt_0 : decode cX0_wireAt 0 = .ok (.iload_n 1, 1) := by decide +kernel
theorem dX0_wireAt_1 : decode cX0_wireAt 1 = .ok (.bipush 8, 2) := by decide +kernel
theorem dX0_wireAt_3 : decode cX0_wireAt 3 = .ok (.imul, 1) := by decide +kernel
theorem dX0_wireAt_4 : decode cX0_wireAt 4 = .ok (.iload_n 2, 1) := by decide +kernel
theorem dX0_wireAt_5 : decode cX0_wireAt 5 = .ok (.iadd, 1) := by decide +kernel
theorem dX0_wireAt_6 : decode cX0_wireAt 6 = .ok (.istore_n 3, 1) := by decide +kernel
theorem dX0_wireAt_7 : decode cX0_wireAt 7 = .ok (.iload_n 3, 1) := by decide +kernel
theorem dX0_wireAt_8 : decode cX0_wireAt 8 = .ok (.ifCond .lt 21, 3) := by decide +kernel
theorem dX0_wireAt_11 : decode cX0_wireAt 11 = .ok (.iload_n 3, 1) := by decide +kernel
theorem dX0_wireAt_12 : decode cX0_wireAt 12 = .ok (.aload_n 0, 1) := by decide +kernel
theorem dX0_wireAt_13 : decode cX0_wireAt 13 = .ok (.getfield 9, 3) := by decide +kernel
theorem dX0_wireAt_16 : decode cX0_wireAt 16 = .ok (.arraylength, 1) := by decide +kernel
theorem dX0_wireAt_17 : decode cX0_wireAt 17 = .ok (.if_icmp .ge 12, 3) := by decide +kernel
theorem dX0_wireAt_20 : decode cX0_wireAt 20 = .ok (.aload_n 0, 1) := by decide +kernel
theorem dX0_wireAt_21 : decode cX0_wireAt 21 = .ok (.getfield 9, 3) := by decide +kernel
theorem dX0_wireAt_24 : decode cX0_wireAt 24 = .ok (.iload_n 3, 1) := by decide +kernel
theorem dX0_wireAt_25 : decode cX0_wireAt 25 = .ok (.iaload, 1) := by decide +kernel
theorem dX0_wireAt_26 : decode cX0_wireAt 26 = .ok (.goto 4, 3) := by decide +kernel
theorem dX0_wireAt_29 : decode cX0_wireAt 29 = .ok (.iconst (-1), 1) := by decide +kernel
theorem dX0_wireAt_30 : decode cX0_wireAt 30 = .ok (.ireturn, 1) := by decide +kernel
theorem dX0_swapWires_0 : decode cX0_swapWires 0 = .ok (.iload_n 1, 1) := by decide +kernel
theorem dX0_swapWires_1 : decode cX0_swapWires 1 = .ok (.bipush 8, 2) := by decide +kernel
theorem dX0_swapWires_3 : decode cX0_swapWires 3 = .ok (.imul, 1) := by decide +kernel
theorem dX0_swapWires_4 : decode cX0_swapWires 4 = .ok (.iload_n 2, 1) := by decide +kernel
theorem dX0_swapWires_5 : decode cX0_swapWires 5 = .ok (.iadd, 1) := by decide +kernel
theorem dX0_swapWires_6 : decode cX0_swapWires 6 = .ok (.istore 4, 2) := by decide +kernel
theorem dX0_swapWires_8 : decode cX0_swapWires 8 = .ok (.iload_n 1, 1) := by decide +kernel
theorem dX0_swapWires_9 : decode cX0_swapWires 9 = .ok (.bipush 8, 2) := by decide +kernel
theorem dX0_swapWires_11 : decode cX0_swapWires 11 = .ok (.imul, 1) := by decide +kernel
theorem dX0_swapWires_12 : decode cX0_swapWires 12 = .ok (.iload_n 3, 1) := by decide +kernel
theorem dX0_swapWires_13 : decode cX0_swapWires 13 = .ok (.iadd, 1) := by decide +kernel
theorem dX0_swapWires_14 : decode cX0_swapWires 14 = .ok (.istore 5, 2) := by decide +kernel
theorem dX0_swapWires_16 : decode cX0_swapWires 16 = .ok (.iload 4, 2) := by decide +kernel
theorem dX0_swapWires_18 : decode cX0_swapWires 18 = .ok (.ifCond .lt 28, 3) := by decide +kernel
theorem dX0_swapWires_21 : decode cX0_swapWires 21 = .ok (.iload 4, 2) := by decide +kernel
theorem dX0_swapWires_23 : decode cX0_swapWires 23 = .ok (.aload_n 0, 1) := by decide +kernel
theorem dX0_swapWires_24 : decode cX0_swapWires 24 = .ok (.getfield 9, 3) := by decide +kernel
theorem dX0_swapWires_27 : decode cX0_swapWires 27 = .ok (.arraylength, 1) := by decide +kernel
theorem dX0_swapWires_28 : decode cX0_swapWires 28 = .ok (.if_icmp .ge 18, 3) := by decide +kernel
theorem dX0_swapWires_31 : decode cX0_swapWires 31 = .ok (.iload 5, 2) := by decide +kernel
theorem dX0_swapWires_33 : decode cX0_swapWires 33 = .ok (.ifCond .lt 13, 3) := by decide +kernel
theorem dX0_swapWires_36 : decode cX0_swapWires 36 = .ok (.iload 5, 2) := by decide +kernel
theorem dX0_swapWires_38 : decode cX0_swapWires 38 = .ok (.aload_n 0, 1) := by decide +kernel
theorem dX0_swapWires_39 : decode cX0_swapWires 39 = .ok (.getfield 9, 3) := by decide +kernel
theorem dX0_swapWires_42 : decode cX0_swapWires 42 = .ok (.arraylength, 1) := by decide +kernel
theorem dX0_swapWires_43 : decode cX0_swapWires 43 = .ok (.if_icmp .lt 4, 3) := by decide +kernel
theorem dX0_swapWires_46 : decode cX0_swapWires 46 = .ok (.return_, 1) := by decide +kernel
theorem dX0_swapWires_47 : decode cX0_swapWires 47 = .ok (.aload_n 0, 1) := by decide +kernel
theorem dX0_swapWires_48 : decode cX0_swapWires 48 = .ok (.getfield 9, 3) := by decide +kernel
theorem dX0_swapWires_51 : decode cX0_swapWires 51 = .ok (.iload 4, 2) := by decide +kernel
theorem dX0_swapWires_53 : decode cX0_swapWires 53 = .ok (.iaload, 1) := by decide +kernel
theorem dX0_swapWires_54 : decode cX0_swapWires 54 = .ok (.istore 6, 2) := by decide +kernel
theorem dX0_swapWires_56 : decode cX0_swapWires 56 = .ok (.aload_n 0, 1) := by decide +kernel
theorem dX0_swapWires_57 : decode cX0_swapWires 57 = .ok (.getfield 9, 3) := by decide +kernel
theorem dX0_swapWires_60 : decode cX0_swapWires 60 = .ok (.iload 4, 2) := by decide +kernel
theorem dX0_swapWires_62 : decode cX0_swapWires 62 = .ok (.aload_n 0, 1) := by decide +kernel
theorem dX0_swapWires_63 : decode cX0_swapWires 63 = .ok (.getfield 9, 3) := by decide +kernel
theorem dX0_swapWires_66 : decode cX0_swapWires 66 = .ok (.iload 5, 2) := by decide +kernel
theorem dX0_swapWires_68 : decode cX0_swapWires 68 = .ok (.iaload, 1) := by decide +kernel
theorem dX0_swapWires_69 : decode cX0_swapWires 69 = .ok (.iastore, 1) := by decide +kernel
theorem dX0_swapWires_70 : decode cX0_swapWires 70 = .ok (.aload_n 0, 1) := by decide +kernel
theorem dX0_swapWires_71 : decode cX0_swapWires 71 = .ok (.getfield 9, 3) := by decide +kernel
theorem dX0_swapWires_74 : decode cX0_swapWires 74 = .ok (.iload 5, 2) := by decide +kernel
theorem dX0_swapWires_76 : decode cX0_swapWires 76 = .ok (.iload 6, 2) := by decide +kernel
theorem dX0_swapWires_78 : decode cX0_swapWires 78 = .ok (.iastore, 1) := by decide +kernel
theorem dX0_swapWires_79 : decode cX0_swapWires 79 = .ok (.return_, 1) := by decide +kernel
set_option maxRecDepth 20000 in
theorem ggX0_presentFaults_Jx4a65c_size_8abf5 : GoodIn wsX0_presentFaults wsJx4a65c_size_8abf5 := goodIn_r _ [7, 8, 40, 41, 42] (by decide +kernel) (by decide +kernel)
set_option maxRecDepth 20000 in
theorem gX0_presentFaults_Jx4a65c_size_8abf5 : GoodIn wsX0_presentFaults (wsV RX0 51 RJx4a65c yJx4a65c_size_8abf5 wsJx4a65c_size_8abf5) := goodIn_app (goodIn_of _ (by decide +kernel)) ggX0_presentFaults_Jx4a65c_size_8abf5
set_option maxRecDepth 20000 in
theorem ggX0_presentFaults_Jx4a65c_get_915e3 : GoodIn wsX0_presentFaults wsJx4a65c_get_915e3 := goodIn_r _ [12, 8, 13, 14, 15, 16, 17, 18, 19, 20, 21, 22, 23, 6, 24, 25, 40, 41, 42] (by decide +kernel) (by decide +kernel)
set_option maxRecDepth 20000 in
theorem gX0_presentFaults_Jx4a65c_get_915e3 : GoodIn wsX0_presentFaults (wsV RX0 55 RJx4a65c yJx4a65c_get_915e3 wsJx4a65c_get_915e3) := goodIn_app (goodIn_of _ (by decide +kernel)) ggX0_presentFaults_Jx4a65c_get_915e3
set_option maxRecDepth 20000 in
theorem ggX0_presentFaults_X2_isPresent : GoodIn wsX0_presentFaults wsX2_isPresent := goodIn_r _ [30, 31, 32, 43, 44, 45, 46, 47] (by decide +kernel) (by decide +kernel)
set_option maxRecDepth 20000 in
theorem gX0_presentFaults_X2_isPresent : GoodIn wsX0_presentFaults (wsV RX0 61 RX2 yX2_isPresent wsX2_isPresent) := goodIn_app (goodIn_of _ (by decide +kernel)) ggX0_presentFaults_X2_isPresent
theorem dX0_presentFaults_0 : decode cX0_presentFaults 0 = .ok (.iconst 0, 1) := by decide +kernel
theorem dX0_presentFaults_1 : decode cX0_presentFaults 1 = .ok (.istore_n 2, 1) := by decide +kernel
theorem dX0_presentFaults_2 : decode cX0_presentFaults 2 = .ok (.iconst 0, 1) := by decide +kernel
theorem dX0_presentFaults_3 : decode cX0_presentFaults 3 = .ok (.istore_n 3, 1) := by decide +kernel
theorem dX0_presentFaults_4 : decode cX0_presentFaults 4 = .ok (.iload_n 3, 1) := by decide +kernel
theorem dX0_presentFaults_5 : decode cX0_presentFaults 5 = .ok (.aload_n 0, 1) := by decide +kernel
theorem dX0_presentFaults_6 : decode cX0_presentFaults 6 = .ok (.getfield 18, 3) := by decide +kernel
theorem dX0_presentFaults_9 : decode cX0_presentFaults 9 = .ok (.invokevirtual 51, 3) := by decide +kernel
theorem dX0_presentFaults_12 : decode cX0_presentFaults 12 = .ok (.if_icmp .ge 33, 3) := by decide +kernel
theorem dX0_presentFaults_15 : decode cX0_presentFaults 15 = .ok (.aload_n 0, 1) := by decide +kernel
theorem dX0_presentFaults_16 : decode cX0_presentFaults 16 = .ok (.getfield 18, 3) := by decide +kernel
theorem dX0_presentFaults_19 : decode cX0_presentFaults 19 = .ok (.iload_n 3, 1) := by decide +kernel
theorem dX0_presentFaults_20 : decode cX0_presentFaults 20 = .ok (.invokevirtual 55, 3) := by decide +kernel
theorem dX0_presentFaults_23 : decode cX0_presentFaults 23 = .ok (.checkcast 59, 3) := by decide +kernel
theorem dX0_presentFaults_26 : decode cX0_presentFaults 26 = .ok (.iload_n 1, 1) := by decide +kernel
theorem dX0_presentFaults_27 : decode cX0_presentFaults 27 = .ok (.invokevirtual 61, 3) := by decide +kernel
theorem dX0_presentFaults_30 : decode cX0_presentFaults 30 = .ok (.ifCond .eq 9, 3) := by decide +kernel
theorem dX0_presentFaults_33 : decode cX0_presentFaults 33 = .ok (.iload_n 2, 1) := by decide +kernel
theorem dX0_presentFaults_34 : decode cX0_presentFaults 34 = .ok (.iconst 1, 1) := by decide +kernel
theorem dX0_presentFaults_35 : decode cX0_presentFaults 35 = .ok (.iload_n 3, 1) := by decide +kernel
theorem dX0_presentFaults_36 : decode cX0_presentFaults 36 = .ok (.ishl, 1) := by decide +kernel
theorem dX0_presentFaults_37 : decode cX0_presentFaults 37 = .ok (.ior, 1) := by decide +kernel
theorem dX0_presentFaults_38 : decode cX0_presentFaults 38 = .ok (.istore_n 2, 1) := by decide +kernel
theorem dX0_presentFaults_39 : decode cX0_presentFaults 39 = .ok (.iinc 3 1, 3) := by decide +kernel
theorem dX0_presentFaults_42 : decode cX0_presentFaults 42 = .ok (.goto (-38), 3) := by decide +kernel
theorem dX0_presentFaults_45 : decode cX0_presentFaults 45 = .ok (.iload_n 2, 1) := by decide +kernel
theorem dX0_presentFaults_46 : decode cX0_presentFaults 46 = .ok (.ireturn, 1) := by decide +kernel
set_option maxRecDepth 20000 in
theorem ggX0_echoAt_X0_wireAt : GoodIn wsX0_echoAt wsX0_wireAt := goodIn_r _ [11, 12, 70, 71, 72, 73, 74, 75, 76] (by decide +kernel) (by decide +kernel)
set_option maxRecDepth 20000 in
theorem gX0_echoAt_X0_wireAt : GoodIn wsX0_echoAt (wsV RX0 65 RX0 yX0_wireAt wsX0_wireAt) := goodIn_app (goodIn_of _ (by decide +kernel)) ggX0_echoAt_X0_wireAt
set_option maxRecDepth 20000 in
theorem ggX0_echoAt_X0_presentFaults : GoodIn wsX0_echoAt wsX0_presentFaults := goodIn_r _ [16, 3, 4, 17, 18, 19, 20, 21, 22, 23, 24, 25, 26, 27, 28, 29, 30, 31, 32, 33, 34, 35, 36, 37, 38, 39, 40, 41, 42, 43, 44, 45, 46, 70, 71, 72, 73, 74, 75, 76, 82, 83, 84, 77, 78, 79, 80, 81] (by decide +kernel) (by decide +kernel)
set_option maxRecDepth 20000 in
theorem gX0_echoAt_X0_presentFaults : GoodIn wsX0_echoAt (wsV RX0 69 RX0 yX0_presentFaults wsX0_presentFaults) := goodIn_app (goodIn_of _ (by decide +kernel)) ggX0_echoAt_X0_presentFaults
set_option maxRecDepth 20000 in
theorem ggX0_echoAt_X0_firstEvent : GoodIn wsX0_echoAt wsX0_firstEvent := goodIn_r _ [50, 3, 4, 17, 18, 19, 20, 21, 22, 23, 24, 25, 26, 27, 28, 29, 30, 31, 32, 33, 34, 35, 36, 37, 38, 39, 51, 52, 53, 43, 54, 55, 56, 57, 58, 59, 60, 61, 62, 63, 64, 65, 70, 71, 72, 73, 74, 75, 76, 82, 83, 84, 77, 78, 79, 80, 81] (by decide +kernel) (by decide +kernel)
set_option maxRecDepth 20000 in
theorem gX0_echoAt_X0_firstEvent : GoodIn wsX0_echoAt (wsV RX0 73 RX0 yX0_firstEvent wsX0_firstEvent) := goodIn_app (goodIn_of _ (by decide +kernel)) ggX0_echoAt_X0_firstEvent
set_option maxRecDepth 20000 in
theorem ggX0_echoAt_Jx4a65c_size_8abf5 : GoodIn wsX0_echoAt wsJx4a65c_size_8abf5 := goodIn_r _ [21, 22, 82, 83, 84] (by decide +kernel) (by decide +kernel)
set_option maxRecDepth 20000 in
theorem gX0_echoAt_Jx4a65c_size_8abf5 : GoodIn wsX0_echoAt (wsV RX0 51 RJx4a65c yJx4a65c_size_8abf5 wsJx4a65c_size_8abf5) := goodIn_app (goodIn_of _ (by decide +kernel)) ggX0_echoAt_Jx4a65c_size_8abf5
set_option maxRecDepth 20000 in
theorem ggX0_echoAt_Jx4a65c_get_915e3 : GoodIn wsX0_echoAt wsJx4a65c_get_915e3 := goodIn_r _ [26, 22, 27, 28, 29, 30, 31, 32, 33, 34, 35, 36, 37, 20, 38, 39, 82, 83, 84] (by decide +kernel) (by decide +kernel)
set_option maxRecDepth 20000 in
theorem gX0_echoAt_Jx4a65c_get_915e3 : GoodIn wsX0_echoAt (wsV RX0 55 RJx4a65c yJx4a65c_get_915e3 wsJx4a65c_get_915e3) := goodIn_app (goodIn_of _ (by decide +kernel)) ggX0_echoAt_Jx4a65c_get_915e3
set_option maxRecDepth 20000 in
theorem ggX0_echoAt_X0_rounded : GoodIn wsX0_echoAt wsX0_rounded := goodIn_r _ [68] (by decide +kernel) (by decide +kernel)
set_option maxRecDepth 20000 in
theorem gX0_echoAt_X0_rounded : GoodIn wsX0_echoAt (va_wsS RX0 79 yX0_rounded wsX0_rounded) := goodIn_app (goodIn_of _ (by decide +kernel)) ggX0_echoAt_X0_rounded
set_option maxRecDepth 20000 in
theorem ggX0_echoAt_X2_isShort : GoodIn wsX0_echoAt wsX2_isShort := goodIn_r _ [65, 56, 77, 78, 79, 80, 81] (by decide +kernel) (by decide +kernel)
set_option maxRecDepth 20000 in
theorem gX0_echoAt_X2_isShort : GoodIn wsX0_echoAt (wsV RX0 82 RX2 yX2_isShort wsX2_isShort) := goodIn_app (goodIn_of _ (by decide +kernel)) ggX0_echoAt_X2_isShort
theorem dX0_echoAt_0 : decode cX0_echoAt 0 = .ok (.aload_n 0, 1) := by decide +kernel
theorem dX0_echoAt_1 : decode cX0_echoAt 1 = .ok (.aload_n 0, 1) := by decide +kernel
theorem dX0_echoAt_2 : decode cX0_echoAt 2 = .ok (.iconst 0, 1) := by decide +kernel
theorem dX0_echoAt_3 : decode cX0_echoAt 3 = .ok (.iload_n 1, 1) := by decide +kernel
theorem dX0_echoAt_4 : decode cX0_echoAt 4 = .ok (.invokevirtual 65, 3) := by decide +kernel
theorem dX0_echoAt_7 : decode cX0_echoAt 7 = .ok (.aload_n 0, 1) := by decide +kernel
theorem dX0_echoAt_8 : decode cX0_echoAt 8 = .ok (.aload_n 0, 1) := by decide +kernel
theorem dX0_echoAt_9 : decode cX0_echoAt 9 = .ok (.getfield 41, 3) := by decide +kernel
theorem dX0_echoAt_12 : decode cX0_echoAt 12 = .ok (.invokevirtual 69, 3) := by decide +kernel
theorem dX0_echoAt_15 : decode cX0_echoAt 15 = .ok (.invokevirtual 73, 3) := by decide +kernel
theorem dX0_echoAt_18 : decode cX0_echoAt 18 = .ok (.istore_n 3, 1) := by decide +kernel
theorem dX0_echoAt_19 : decode cX0_echoAt 19 = .ok (.iload_n 3, 1) := by decide +kernel
theorem dX0_echoAt_20 : decode cX0_echoAt 20 = .ok (.iconst (-1), 1) := by decide +kernel
theorem dX0_echoAt_21 : decode cX0_echoAt 21 = .ok (.if_icmp .ne 12, 3) := by decide +kernel
theorem dX0_echoAt_24 : decode cX0_echoAt 24 = .ok (.aload_n 0, 1) := by decide +kernel
theorem dX0_echoAt_25 : decode cX0_echoAt 25 = .ok (.getfield 38, 3) := by decide +kernel
theorem dX0_echoAt_28 : decode cX0_echoAt 28 = .ok (.ifCond .eq 5, 3) := by decide +kernel
theorem dX0_echoAt_31 : decode cX0_echoAt 31 = .ok (.iconst (-1), 1) := by decide +kernel
theorem dX0_echoAt_32 : decode cX0_echoAt 32 = .ok (.ireturn, 1) := by decide +kernel
theorem dX0_echoAt_33 : decode cX0_echoAt 33 = .ok (.iload_n 3, 1) := by decide +kernel
theorem dX0_echoAt_34 : decode cX0_echoAt 34 = .ok (.ifCond .lt 18, 3) := by decide +kernel
theorem dX0_echoAt_37 : decode cX0_echoAt 37 = .ok (.iload_n 3, 1) := by decide +kernel
theorem dX0_echoAt_38 : decode cX0_echoAt 38 = .ok (.aload_n 0, 1) := by decide +kernel
theorem dX0_echoAt_39 : decode cX0_echoAt 39 = .ok (.getfield 18, 3) := by decide +kernel
theorem dX0_echoAt_42 : decode cX0_echoAt 42 = .ok (.invokevirtual 51, 3) := by decide +kernel
theorem dX0_echoAt_45 : decode cX0_echoAt 45 = .ok (.if_icmp .ge 7, 3) := by decide +kernel
theorem dX0_echoAt_48 : decode cX0_echoAt 48 = .ok (.iconst 1, 1) := by decide +kernel
theorem dX0_echoAt_49 : decode cX0_echoAt 49 = .ok (.goto 4, 3) := by decide +kernel
theorem dX0_echoAt_52 : decode cX0_echoAt 52 = .ok (.iconst 0, 1) := by decide +kernel
theorem dX0_echoAt_53 : decode cX0_echoAt 53 = .ok (.istore 4, 2) := by decide +kernel
theorem dX0_echoAt_55 : decode cX0_echoAt 55 = .ok (.iload 4, 2) := by decide +kernel
theorem dX0_echoAt_57 : decode cX0_echoAt 57 = .ok (.ifCond .eq 20, 3) := by decide +kernel
theorem dX0_echoAt_60 : decode cX0_echoAt 60 = .ok (.aload_n 0, 1) := by decide +kernel
theorem dX0_echoAt_61 : decode cX0_echoAt 61 = .ok (.getfield 18, 3) := by decide +kernel
theorem dX0_echoAt_64 : decode cX0_echoAt 64 = .ok (.iload_n 3, 1) := by decide +kernel
theorem dX0_echoAt_65 : decode cX0_echoAt 65 = .ok (.invokevirtual 55, 3) := by decide +kernel
theorem dX0_echoAt_68 : decode cX0_echoAt 68 = .ok (.checkcast 59, 3) := by decide +kernel
theorem dX0_echoAt_71 : decode cX0_echoAt 71 = .ok (.getfield 76, 3) := by decide +kernel
theorem dX0_echoAt_74 : decode cX0_echoAt 74 = .ok (.goto 7, 3) := by decide +kernel
theorem dX0_echoAt_77 : decode cX0_echoAt 77 = .ok (.aload_n 0, 1) := by decide +kernel
theorem dX0_echoAt_78 : decode cX0_echoAt 78 = .ok (.getfield 31, 3) := by decide +kernel
theorem dX0_echoAt_81 : decode cX0_echoAt 81 = .ok (.istore 5, 2) := by decide +kernel
theorem dX0_echoAt_83 : decode cX0_echoAt 83 = .ok (.sipush 200, 3) := by decide +kernel
theorem dX0_echoAt_86 : decode cX0_echoAt 86 = .ok (.iload 5, 2) := by decide +kernel
theorem dX0_echoAt_88 : decode cX0_echoAt 88 = .ok (.imul, 1) := by decide +kernel
theorem dX0_echoAt_89 : decode cX0_echoAt 89 = .ok (.iconst 3, 1) := by decide +kernel
theorem dX0_echoAt_90 : decode cX0_echoAt 90 = .ok (.aload_n 0, 1) := by decide +kernel
theorem dX0_echoAt_91 : decode cX0_echoAt 91 = .ok (.getfield 35, 3) := by decide +kernel
theorem dX0_echoAt_94 : decode cX0_echoAt 94 = .ok (.imul, 1) := by decide +kernel
theorem dX0_echoAt_95 : decode cX0_echoAt 95 = .ok (.invokestatic 79, 3) := by decide +kernel
theorem dX0_echoAt_98 : decode cX0_echoAt 98 = .ok (.istore 6, 2) := by decide +kernel
theorem dX0_echoAt_100 : decode cX0_echoAt 100 = .ok (.iload_n 2, 1) := by decide +kernel
theorem dX0_echoAt_101 : decode cX0_echoAt 101 = .ok (.tableswitch 74 0 2 #[27, 55, 58], 27) := by decide +kernel
theorem dX0_echoAt_128 : decode cX0_echoAt 128 = .ok (.iload 4, 2) := by decide +kernel
theorem dX0_echoAt_130 : decode cX0_echoAt 130 = .ok (.ifCond .eq 24, 3) := by decide +kernel
theorem dX0_echoAt_133 : decode cX0_echoAt 133 = .ok (.aload_n 0, 1) := by decide +kernel
theorem dX0_echoAt_134 : decode cX0_echoAt 134 = .ok (.getfield 18, 3) := by decide +kernel
theorem dX0_echoAt_137 : decode cX0_echoAt 137 = .ok (.iload_n 3, 1) := by decide +kernel
theorem dX0_echoAt_138 : decode cX0_echoAt 138 = .ok (.invokevirtual 55, 3) := by decide +kernel
theorem dX0_echoAt_141 : decode cX0_echoAt 141 = .ok (.checkcast 59, 3) := by decide +kernel
theorem dX0_echoAt_144 : decode cX0_echoAt 144 = .ok (.invokevirtual 82, 3) := by decide +kernel
theorem dX0_echoAt_147 : decode cX0_echoAt 147 = .ok (.ifCond .eq 7, 3) := by decide +kernel
theorem dX0_echoAt_150 : decode cX0_echoAt 150 = .ok (.iconst 1, 1) := by decide +kernel
theorem dX0_echoAt_151 : decode cX0_echoAt 151 = .ok (.goto 4, 3) := by decide +kernel
theorem dX0_echoAt_154 : decode cX0_echoAt 154 = .ok (.iconst 0, 1) := by decide +kernel
theorem dX0_echoAt_155 : decode cX0_echoAt 155 = .ok (.ireturn, 1) := by decide +kernel
theorem dX0_echoAt_156 : decode cX0_echoAt 156 = .ok (.iload 6, 2) := by decide +kernel
theorem dX0_echoAt_158 : decode cX0_echoAt 158 = .ok (.ireturn, 1) := by decide +kernel
theorem dX0_echoAt_159 : decode cX0_echoAt 159 = .ok (.iconst 3, 1) := by decide +kernel
theorem dX0_echoAt_160 : decode cX0_echoAt 160 = .ok (.aload_n 0, 1) := by decide +kernel
theorem dX0_echoAt_161 : decode cX0_echoAt 161 = .ok (.getfield 35, 3) := by decide +kernel
theorem dX0_echoAt_164 : decode cX0_echoAt 164 = .ok (.imul, 1) := by decide +kernel
theorem dX0_echoAt_165 : decode cX0_echoAt 165 = .ok (.iload 6, 2) := by decide +kernel
theorem dX0_echoAt_167 : decode cX0_echoAt 167 = .ok (.imul, 1) := by decide +kernel
theorem dX0_echoAt_168 : decode cX0_echoAt 168 = .ok (.sipush 200, 3) := by decide +kernel
theorem dX0_echoAt_171 : decode cX0_echoAt 171 = .ok (.invokestatic 79, 3) := by decide +kernel
theorem dX0_echoAt_174 : decode cX0_echoAt 174 = .ok (.ireturn, 1) := by decide +kernel
theorem dX0_echoAt_175 : decode cX0_echoAt 175 = .ok (.iload 5, 2) := by decide +kernel
theorem dX0_echoAt_177 : decode cX0_echoAt 177 = .ok (.ireturn, 1) := by decide +kernel
set_option maxRecDepth 20000 in
theorem ggX0_firstEvent_Jx4a65c_size_8abf5 : GoodIn wsX0_firstEvent wsJx4a65c_size_8abf5 := goodIn_r _ [7, 8, 49, 50, 51] (by decide +kernel) (by decide +kernel)
set_option maxRecDepth 20000 in
theorem gX0_firstEvent_Jx4a65c_size_8abf5 : GoodIn wsX0_firstEvent (wsV RX0 51 RJx4a65c yJx4a65c_size_8abf5 wsJx4a65c_size_8abf5) := goodIn_app (goodIn_of _ (by decide +kernel)) ggX0_firstEvent_Jx4a65c_size_8abf5
set_option maxRecDepth 20000 in
theorem ggX0_firstEvent_Jx4a65c_get_915e3 : GoodIn wsX0_firstEvent wsJx4a65c_get_915e3 := goodIn_r _ [12, 8, 13, 14, 15, 16, 17, 18, 19, 20, 21, 22, 23, 6, 24, 25, 49, 50, 51] (by decide +kernel) (by decide +kernel)
set_option maxRecDepth 20000 in
theorem gX0_firstEvent_Jx4a65c_get_915e3 : GoodIn wsX0_firstEvent (wsV RX0 55 RJx4a65c yJx4a65c_get_915e3 wsJx4a65c_get_915e3) := goodIn_app (goodIn_of _ (by decide +kernel)) ggX0_firstEvent_Jx4a65c_get_915e3
set_option maxRecDepth 20000 in
theorem ggX0_firstEvent_X2_touches : GoodIn wsX0_firstEvent wsX2_touches := goodIn_r _ [30, 31, 32, 52, 53, 54, 55, 56] (by decide +kernel) (by decide +kernel)
set_option maxRecDepth 20000 in
theorem gX0_firstEvent_X2_touches : GoodIn wsX0_firstEvent (wsV RX0 86 RX2 yX2_touches wsX2_touches) := goodIn_app (goodIn_of _ (by decide +kernel)) ggX0_firstEvent_X2_touches
set_option maxRecDepth 20000 in
theorem ggX0_firstEvent_X2_isMetBefore : GoodIn wsX0_firstEvent wsX2_isMetBefore := goodIn_r _ [36, 37, 38, 39, 40, 29, 41, 32, 52, 53, 54, 55, 56] (by decide +kernel) (by decide +kernel)
set_option maxRecDepth 20000 in
theorem gX0_firstEvent_X2_isMetBefore : GoodIn wsX0_firstEvent (wsV RX0 89 RX2 yX2_isMetBefore wsX2_isMetBefore) := goodIn_app (goodIn_of _ (by decide +kernel)) ggX0_firstEvent_X2_isMetBefore
theorem dX0_firstEvent_0 : decode cX0_firstEvent 0 = .ok (.iconst (-1), 1) := by decide +kernel
theorem dX0_firstEvent_1 : decode cX0_firstEvent 1 = .ok (.istore_n 3, 1) := by decide +kernel
theorem dX0_firstEvent_2 : decode cX0_firstEvent 2 = .ok (.iconst 0, 1) := by decide +kernel
theorem dX0_firstEvent_3 : decode cX0_firstEvent 3 = .ok (.istore 4, 2) := by decide +kernel
theorem dX0_firstEvent_5 : decode cX0_firstEvent 5 = .ok (.iload 4, 2) := by decide +kernel
theorem dX0_firstEvent_7 : decode cX0_firstEvent 7 = .ok (.aload_n 0, 1) := by decide +kernel
theorem dX0_firstEvent_8 : decode cX0_firstEvent 8 = .ok (.getfield 18, 3) := by decide +kernel
theorem dX0_firstEvent_11 : decode cX0_firstEvent 11 = .ok (.invokevirtual 51, 3) := by decide +kernel
theorem dX0_firstEvent_14 : decode cX0_firstEvent 14 = .ok (.if_icmp .ge 74, 3) := by decide +kernel
theorem dX0_firstEvent_17 : decode cX0_firstEvent 17 = .ok (.iload_n 2, 1) := by decide +kernel
theorem dX0_firstEvent_18 : decode cX0_firstEvent 18 = .ok (.iload 4, 2) := by decide +kernel
theorem dX0_firstEvent_20 : decode cX0_firstEvent 20 = .ok (.ishr, 1) := by decide +kernel
theorem dX0_firstEvent_21 : decode cX0_firstEvent 21 = .ok (.iconst 1, 1) := by decide +kernel
theorem dX0_firstEvent_22 : decode cX0_firstEvent 22 = .ok (.iand, 1) := by decide +kernel
theorem dX0_firstEvent_23 : decode cX0_firstEvent 23 = .ok (.ifCond .eq 59, 3) := by decide +kernel
theorem dX0_firstEvent_26 : decode cX0_firstEvent 26 = .ok (.aload_n 0, 1) := by decide +kernel
theorem dX0_firstEvent_27 : decode cX0_firstEvent 27 = .ok (.getfield 18, 3) := by decide +kernel
theorem dX0_firstEvent_30 : decode cX0_firstEvent 30 = .ok (.iload 4, 2) := by decide +kernel
theorem dX0_firstEvent_32 : decode cX0_firstEvent 32 = .ok (.invokevirtual 55, 3) := by decide +kernel
theorem dX0_firstEvent_35 : decode cX0_firstEvent 35 = .ok (.checkcast 59, 3) := by decide +kernel
theorem dX0_firstEvent_38 : decode cX0_firstEvent 38 = .ok (.iload_n 1, 1) := by decide +kernel
theorem dX0_firstEvent_39 : decode cX0_firstEvent 39 = .ok (.invokevirtual 86, 3) := by decide +kernel
theorem dX0_firstEvent_42 : decode cX0_firstEvent 42 = .ok (.ifCond .eq 40, 3) := by decide +kernel
theorem dX0_firstEvent_45 : decode cX0_firstEvent 45 = .ok (.iload_n 3, 1) := by decide +kernel
theorem dX0_firstEvent_46 : decode cX0_firstEvent 46 = .ok (.iconst (-1), 1) := by decide +kernel
theorem dX0_firstEvent_47 : decode cX0_firstEvent 47 = .ok (.if_icmp .eq 32, 3) := by decide +kernel
theorem dX0_firstEvent_50 : decode cX0_firstEvent 50 = .ok (.aload_n 0, 1) := by decide +kernel
theorem dX0_firstEvent_51 : decode cX0_firstEvent 51 = .ok (.getfield 18, 3) := by decide +kernel
theorem dX0_firstEvent_54 : decode cX0_firstEvent 54 = .ok (.iload 4, 2) := by decide +kernel
theorem dX0_firstEvent_56 : decode cX0_firstEvent 56 = .ok (.invokevirtual 55, 3) := by decide +kernel
theorem dX0_firstEvent_59 : decode cX0_firstEvent 59 = .ok (.checkcast 59, 3) := by decide +kernel
theorem dX0_firstEvent_62 : decode cX0_firstEvent 62 = .ok (.aload_n 0, 1) := by decide +kernel
theorem dX0_firstEvent_63 : decode cX0_firstEvent 63 = .ok (.getfield 18, 3) := by decide +kernel
theorem dX0_firstEvent_66 : decode cX0_firstEvent 66 = .ok (.iload_n 3, 1) := by decide +kernel
theorem dX0_firstEvent_67 : decode cX0_firstEvent 67 = .ok (.invokevirtual 55, 3) := by decide +kernel
theorem dX0_firstEvent_70 : decode cX0_firstEvent 70 = .ok (.checkcast 59, 3) := by decide +kernel
theorem dX0_firstEvent_73 : decode cX0_firstEvent 73 = .ok (.invokevirtual 89, 3) := by decide +kernel
theorem dX0_firstEvent_76 : decode cX0_firstEvent 76 = .ok (.ifCond .eq 6, 3) := by decide +kernel
theorem dX0_firstEvent_79 : decode cX0_firstEvent 79 = .ok (.iload 4, 2) := by decide +kernel
theorem dX0_firstEvent_81 : decode cX0_firstEvent 81 = .ok (.istore_n 3, 1) := by decide +kernel
theorem dX0_firstEvent_82 : decode cX0_firstEvent 82 = .ok (.iinc 4 1, 3) := by decide +kernel
theorem dX0_firstEvent_85 : decode cX0_firstEvent 85 = .ok (.goto (-80), 3) := by decide +kernel
theorem dX0_firstEvent_88 : decode cX0_firstEvent 88 = .ok (.iload_n 3, 1) := by decide +kernel
theorem dX0_firstEvent_89 : decode cX0_firstEvent 89 = .ok (.ireturn, 1) := by decide +kernel
theorem dX0_rounded_0 : decode cX0_rounded 0 = .ok (.iload_n 1, 1) := by decide +kernel
theorem dX0_rounded_1 : decode cX0_rounded 1 = .ok (.ifCond .le 15, 3) := by decide +kernel
theorem dX0_rounded_4 : decode cX0_rounded 4 = .ok (.iconst 2, 1) := by decide +kernel
theorem dX0_rounded_5 : decode cX0_rounded 5 = .ok (.iload_n 0, 1) := by decide +kernel
theorem dX0_rounded_6 : decode cX0_rounded 6 = .ok (.imul, 1) := by decide +kernel
theorem dX0_rounded_7 : decode cX0_rounded 7 = .ok (.iload_n 1, 1) := by decide +kernel
theorem dX0_rounded_8 : decode cX0_rounded 8 = .ok (.iadd, 1) := by decide +kernel
theorem dX0_rounded_9 : decode cX0_rounded 9 = .ok (.iconst 2, 1) := by decide +kernel
theorem dX0_rounded_10 : decode cX0_rounded 10 = .ok (.iload_n 1, 1) := by decide +kernel
theorem dX0_rounded_11 : decode cX0_rounded 11 = .ok (.imul, 1) := by decide +kernel
theorem dX0_rounded_12 : decode cX0_rounded 12 = .ok (.idiv, 1) := by decide +kernel
theorem dX0_rounded_13 : decode cX0_rounded 13 = .ok (.goto 4, 3) := by decide +kernel
theorem dX0_rounded_16 : decode cX0_rounded 16 = .ok (.iconst 0, 1) := by decide +kernel
theorem dX0_rounded_17 : decode cX0_rounded 17 = .ok (.ireturn, 1) := by decide +kernel
set_option maxRecDepth 20000 in
theorem ggX0_crosstalkOf_X0_nearPairOf : GoodIn wsX0_crosstalkOf wsX0_nearPairOf := goodIn_r _ [5, 6, 7, 8, 9, 10, 11, 12, 13] (by decide +kernel) (by decide +kernel)
set_option maxRecDepth 20000 in
theorem gX0_crosstalkOf_X0_nearPairOf : GoodIn wsX0_crosstalkOf (wsV RX0 93 RX0 yX0_nearPairOf wsX0_nearPairOf) := goodIn_app (goodIn_of _ (by decide +kernel)) ggX0_crosstalkOf_X0_nearPairOf
theorem dX0_crosstalkOf_0 : decode cX0_crosstalkOf 0 = .ok (.iload_n 1, 1) := by decide +kernel
theorem dX0_crosstalkOf_1 : decode cX0_crosstalkOf 1 = .ok (.iload_n 2, 1) := by decide +kernel
theorem dX0_crosstalkOf_2 : decode cX0_crosstalkOf 2 = .ok (.if_icmp .ne 5, 3) := by decide +kernel
theorem dX0_crosstalkOf_5 : decode cX0_crosstalkOf 5 = .ok (.iconst 0, 1) := by decide +kernel
theorem dX0_crosstalkOf_6 : decode cX0_crosstalkOf 6 = .ok (.ireturn, 1) := by decide +kernel
theorem dX0_crosstalkOf_7 : decode cX0_crosstalkOf 7 = .ok (.iconst 0, 1) := by decide +kernel
theorem dX0_crosstalkOf_8 : decode cX0_crosstalkOf 8 = .ok (.istore_n 3, 1) := by decide +kernel
theorem dX0_crosstalkOf_9 : decode cX0_crosstalkOf 9 = .ok (.iconst 0, 1) := by decide +kernel
theorem dX0_crosstalkOf_10 : decode cX0_crosstalkOf 10 = .ok (.istore 4, 2) := by decide +kernel
theorem dX0_crosstalkOf_12 : decode cX0_crosstalkOf 12 = .ok (.iload 4, 2) := by decide +kernel
theorem dX0_crosstalkOf_14 : decode cX0_crosstalkOf 14 = .ok (.iconst 4, 1) := by decide +kernel
theorem dX0_crosstalkOf_15 : decode cX0_crosstalkOf 15 = .ok (.if_icmp .ge 58, 3) := by decide +kernel
theorem dX0_crosstalkOf_18 : decode cX0_crosstalkOf 18 = .ok (.aload_n 0, 1) := by decide +kernel
theorem dX0_crosstalkOf_19 : decode cX0_crosstalkOf 19 = .ok (.iconst 2, 1) := by decide +kernel
theorem dX0_crosstalkOf_20 : decode cX0_crosstalkOf 20 = .ok (.iload 4, 2) := by decide +kernel
theorem dX0_crosstalkOf_22 : decode cX0_crosstalkOf 22 = .ok (.imul, 1) := by decide +kernel
theorem dX0_crosstalkOf_23 : decode cX0_crosstalkOf 23 = .ok (.invokevirtual 93, 3) := by decide +kernel
theorem dX0_crosstalkOf_26 : decode cX0_crosstalkOf 26 = .ok (.istore 5, 2) := by decide +kernel
theorem dX0_crosstalkOf_28 : decode cX0_crosstalkOf 28 = .ok (.aload_n 0, 1) := by decide +kernel
theorem dX0_crosstalkOf_29 : decode cX0_crosstalkOf 29 = .ok (.iconst 2, 1) := by decide +kernel
theorem dX0_crosstalkOf_30 : decode cX0_crosstalkOf 30 = .ok (.iload 4, 2) := by decide +kernel
theorem dX0_crosstalkOf_32 : decode cX0_crosstalkOf 32 = .ok (.imul, 1) := by decide +kernel
theorem dX0_crosstalkOf_33 : decode cX0_crosstalkOf 33 = .ok (.iconst 1, 1) := by decide +kernel
theorem dX0_crosstalkOf_34 : decode cX0_crosstalkOf 34 = .ok (.iadd, 1) := by decide +kernel
theorem dX0_crosstalkOf_35 : decode cX0_crosstalkOf 35 = .ok (.invokevirtual 93, 3) := by decide +kernel
theorem dX0_crosstalkOf_38 : decode cX0_crosstalkOf 38 = .ok (.istore 6, 2) := by decide +kernel
theorem dX0_crosstalkOf_40 : decode cX0_crosstalkOf 40 = .ok (.iload 5, 2) := by decide +kernel
theorem dX0_crosstalkOf_42 : decode cX0_crosstalkOf 42 = .ok (.iload_n 1, 1) := by decide +kernel
theorem dX0_crosstalkOf_43 : decode cX0_crosstalkOf 43 = .ok (.if_icmp .ne 9, 3) := by decide +kernel
theorem dX0_crosstalkOf_46 : decode cX0_crosstalkOf 46 = .ok (.iload 6, 2) := by decide +kernel
theorem dX0_crosstalkOf_48 : decode cX0_crosstalkOf 48 = .ok (.iload_n 2, 1) := by decide +kernel
theorem dX0_crosstalkOf_49 : decode cX0_crosstalkOf 49 = .ok (.if_icmp .eq 15, 3) := by decide +kernel
theorem dX0_crosstalkOf_52 : decode cX0_crosstalkOf 52 = .ok (.iload 5, 2) := by decide +kernel
theorem dX0_crosstalkOf_54 : decode cX0_crosstalkOf 54 = .ok (.iload_n 2, 1) := by decide +kernel
theorem dX0_crosstalkOf_55 : decode cX0_crosstalkOf 55 = .ok (.if_icmp .ne 12, 3) := by decide +kernel
theorem dX0_crosstalkOf_58 : decode cX0_crosstalkOf 58 = .ok (.iload 6, 2) := by decide +kernel
theorem dX0_crosstalkOf_60 : decode cX0_crosstalkOf 60 = .ok (.iload_n 1, 1) := by decide +kernel
theorem dX0_crosstalkOf_61 : decode cX0_crosstalkOf 61 = .ok (.if_icmp .ne 6, 3) := by decide +kernel
theorem dX0_crosstalkOf_64 : decode cX0_crosstalkOf 64 = .ok (.iinc 3 1, 3) := by decide +kernel
theorem dX0_crosstalkOf_67 : decode cX0_crosstalkOf 67 = .ok (.iinc 4 1, 3) := by decide +kernel
theorem dX0_crosstalkOf_70 : decode cX0_crosstalkOf 70 = .ok (.goto (-58), 3) := by decide +kernel
theorem dX0_crosstalkOf_73 : decode cX0_crosstalkOf 73 = .ok (.iload_n 3, 1) := by decide +kernel
theorem dX0_crosstalkOf_74 : decode cX0_crosstalkOf 74 = .ok (.ireturn, 1) := by decide +kernel
theorem dX0_nearPairOf_0 : decode cX0_nearPairOf 0 = .ok (.iconst 0, 1) := by decide +kernel
theorem dX0_nearPairOf_1 : decode cX0_nearPairOf 1 = .ok (.istore_n 2, 1) := by decide +kernel
theorem dX0_nearPairOf_2 : decode cX0_nearPairOf 2 = .ok (.iload_n 2, 1) := by decide +kernel
theorem dX0_nearPairOf_3 : decode cX0_nearPairOf 3 = .ok (.bipush 8, 2) := by decide +kernel
theorem dX0_nearPairOf_5 : decode cX0_nearPairOf 5 = .ok (.if_icmp .ge 23, 3) := by decide +kernel
theorem dX0_nearPairOf_8 : decode cX0_nearPairOf 8 = .ok (.aload_n 0, 1) := by decide +kernel
theorem dX0_nearPairOf_9 : decode cX0_nearPairOf 9 = .ok (.getfield 9, 3) := by decide +kernel
theorem dX0_nearPairOf_12 : decode cX0_nearPairOf 12 = .ok (.iload_n 2, 1) := by decide +kernel
theorem dX0_nearPairOf_13 : decode cX0_nearPairOf 13 = .ok (.iaload, 1) := by decide +kernel
theorem dX0_nearPairOf_14 : decode cX0_nearPairOf 14 = .ok (.iload_n 1, 1) := by decide +kernel
theorem dX0_nearPairOf_15 : decode cX0_nearPairOf 15 = .ok (.if_icmp .ne 7, 3) := by decide +kernel
theorem dX0_nearPairOf_18 : decode cX0_nearPairOf 18 = .ok (.iload_n 2, 1) := by decide +kernel
theorem dX0_nearPairOf_19 : decode cX0_nearPairOf 19 = .ok (.iconst 2, 1) := by decide +kernel
theorem dX0_nearPairOf_20 : decode cX0_nearPairOf 20 = .ok (.idiv, 1) := by decide +kernel
theorem dX0_nearPairOf_21 : decode cX0_nearPairOf 21 = .ok (.ireturn, 1) := by decide +kernel
theorem dX0_nearPairOf_22 : decode cX0_nearPairOf 22 = .ok (.iinc 2 1, 3) := by decide +kernel
theorem dX0_nearPairOf_25 : decode cX0_nearPairOf 25 = .ok (.goto (-23), 3) := by decide +kernel
theorem dX0_nearPairOf_28 : decode cX0_nearPairOf 28 = .ok (.iconst (-1), 1) := by decide +kernel
theorem dX0_nearPairOf_29 : decode cX0_nearPairOf 29 = .ok (.ireturn, 1) := by decide +kernel
set_option maxRecDepth 20000 in
theorem ggX0_isSplit_X0_wireAt : GoodIn wsX0_isSplit wsX0_wireAt := goodIn_r _ [5, 6, 7, 8, 9, 10, 11, 12, 13] (by decide +kernel) (by decide +kernel)
set_option maxRecDepth 20000 in
theorem gX0_isSplit_X0_wireAt : GoodIn wsX0_isSplit (wsV RX0 65 RX0 yX0_wireAt wsX0_wireAt) := goodIn_app (goodIn_of _ (by decide +kernel)) ggX0_isSplit_X0_wireAt
theorem dX0_isSplit_0 : decode cX0_isSplit 0 = .ok (.aload_n 0, 1) := by decide +kernel
theorem dX0_isSplit_1 : decode cX0_isSplit 1 = .ok (.iconst 0, 1) := by decide +kernel
theorem dX0_isSplit_2 : decode cX0_isSplit 2 = .ok (.iconst 2, 1) := by decide +kernel
theorem dX0_isSplit_3 : decode cX0_isSplit 3 = .ok (.iload_n 1, 1) := by decide +kernel
theorem dX0_isSplit_4 : decode cX0_isSplit 4 = .ok (.imul, 1) := by decide +kernel
theorem dX0_isSplit_5 : decode cX0_isSplit 5 = .ok (.invokevirtual 65, 3) := by decide +kernel
theorem dX0_isSplit_8 : decode cX0_isSplit 8 = .ok (.iconst 2, 1) := by decide +kernel
theorem dX0_isSplit_9 : decode cX0_isSplit 9 = .ok (.idiv, 1) := by decide +kernel
theorem dX0_isSplit_10 : decode cX0_isSplit 10 = .ok (.aload_n 0, 1) := by decide +kernel
theorem dX0_isSplit_11 : decode cX0_isSplit 11 = .ok (.iconst 0, 1) := by decide +kernel
theorem dX0_isSplit_12 : decode cX0_isSplit 12 = .ok (.iconst 2, 1) := by decide +kernel
theorem dX0_isSplit_13 : decode cX0_isSplit 13 = .ok (.iload_n 1, 1) := by decide +kernel
theorem dX0_isSplit_14 : decode cX0_isSplit 14 = .ok (.imul, 1) := by decide +kernel
theorem dX0_isSplit_15 : decode cX0_isSplit 15 = .ok (.iconst 1, 1) := by decide +kernel
theorem dX0_isSplit_16 : decode cX0_isSplit 16 = .ok (.iadd, 1) := by decide +kernel
theorem dX0_isSplit_17 : decode cX0_isSplit 17 = .ok (.invokevirtual 65, 3) := by decide +kernel
theorem dX0_isSplit_20 : decode cX0_isSplit 20 = .ok (.iconst 2, 1) := by decide +kernel
theorem dX0_isSplit_21 : decode cX0_isSplit 21 = .ok (.idiv, 1) := by decide +kernel
theorem dX0_isSplit_22 : decode cX0_isSplit 22 = .ok (.if_icmp .eq 7, 3) := by decide +kernel
theorem dX0_isSplit_25 : decode cX0_isSplit 25 = .ok (.iconst 1, 1) := by decide +kernel
theorem dX0_isSplit_26 : decode cX0_isSplit 26 = .ok (.goto 4, 3) := by decide +kernel
theorem dX0_isSplit_29 : decode cX0_isSplit 29 = .ok (.iconst 0, 1) := by decide +kernel
theorem dX0_isSplit_30 : decode cX0_isSplit 30 = .ok (.ireturn, 1) := by decide +kernel
set_option maxRecDepth 20000 in
theorem ggX0_splitPairs_X0_isSplit : GoodIn wsX0_splitPairs wsX0_isSplit := goodIn_r _ [5, 6, 7, 8, 4, 9, 10, 11, 12, 13, 14, 15, 16, 17] (by decide +kernel) (by decide +kernel)
set_option maxRecDepth 20000 in
theorem gX0_splitPairs_X0_isSplit : GoodIn wsX0_splitPairs (wsV RX0 96 RX0 yX0_isSplit wsX0_isSplit) := goodIn_app (goodIn_of _ (by decide +kernel)) ggX0_splitPairs_X0_isSplit
theorem dX0_splitPairs_0 : decode cX0_splitPairs 0 = .ok (.iconst 0, 1) := by decide +kernel
theorem dX0_splitPairs_1 : decode cX0_splitPairs 1 = .ok (.istore_n 1, 1) := by decide +kernel
theorem dX0_splitPairs_2 : decode cX0_splitPairs 2 = .ok (.iconst 0, 1) := by decide +kernel
theorem dX0_splitPairs_3 : decode cX0_splitPairs 3 = .ok (.istore_n 2, 1) := by decide +kernel
theorem dX0_splitPairs_4 : decode cX0_splitPairs 4 = .ok (.iload_n 2, 1) := by decide +kernel
theorem dX0_splitPairs_5 : decode cX0_splitPairs 5 = .ok (.iconst 4, 1) := by decide +kernel
theorem dX0_splitPairs_6 : decode cX0_splitPairs 6 = .ok (.if_icmp .ge 23, 3) := by decide +kernel
theorem dX0_splitPairs_9 : decode cX0_splitPairs 9 = .ok (.aload_n 0, 1) := by decide +kernel
theorem dX0_splitPairs_10 : decode cX0_splitPairs 10 = .ok (.iload_n 2, 1) := by decide +kernel
theorem dX0_splitPairs_11 : decode cX0_splitPairs 11 = .ok (.invokevirtual 96, 3) := by decide +kernel
theorem dX0_splitPairs_14 : decode cX0_splitPairs 14 = .ok (.ifCond .eq 9, 3) := by decide +kernel
theorem dX0_splitPairs_17 : decode cX0_splitPairs 17 = .ok (.iload_n 1, 1) := by decide +kernel
theorem dX0_splitPairs_18 : decode cX0_splitPairs 18 = .ok (.iconst 1, 1) := by decide +kernel
theorem dX0_splitPairs_19 : decode cX0_splitPairs 19 = .ok (.iload_n 2, 1) := by decide +kernel
theorem dX0_splitPairs_20 : decode cX0_splitPairs 20 = .ok (.ishl, 1) := by decide +kernel
theorem dX0_splitPairs_21 : decode cX0_splitPairs 21 = .ok (.ior, 1) := by decide +kernel
theorem dX0_splitPairs_22 : decode cX0_splitPairs 22 = .ok (.istore_n 1, 1) := by decide +kernel
theorem dX0_splitPairs_23 : decode cX0_splitPairs 23 = .ok (.iinc 2 1, 3) := by decide +kernel
theorem dX0_splitPairs_26 : decode cX0_splitPairs 26 = .ok (.goto (-22), 3) := by decide +kernel
theorem dX0_splitPairs_29 : decode cX0_splitPairs 29 = .ok (.iload_n 1, 1) := by decide +kernel
theorem dX0_splitPairs_30 : decode cX0_splitPairs 30 = .ok (.ireturn, 1) := by decide +kernel
set_option maxRecDepth 20000 in
theorem ggX0_splitsNeeded_X3_separate : GoodIn wsX0_splitsNeeded wsX3_separate := goodIn_r _ [6, 7, 33] (by decide +kernel) (by decide +kernel)
set_option maxRecDepth 20000 in
theorem gX0_splitsNeeded_X3_separate : GoodIn wsX0_splitsNeeded (wsV RX0 99 RX3 yX3_separate wsX3_separate) := goodIn_app (goodIn_of _ (by decide +kernel)) ggX0_splitsNeeded_X3_separate
set_option maxRecDepth 20000 in
theorem ggX0_splitsNeeded_X0_crosstalkOf : GoodIn wsX0_splitsNeeded wsX0_crosstalkOf := goodIn_r _ [12, 13, 14, 15, 11, 16, 17, 26, 27, 28, 29, 30, 31, 32] (by decide +kernel) (by decide +kernel)
set_option maxRecDepth 20000 in
theorem gX0_splitsNeeded_X0_crosstalkOf : GoodIn wsX0_splitsNeeded (wsV RX0 102 RX0 yX0_crosstalkOf wsX0_crosstalkOf) := goodIn_app (goodIn_of _ (by decide +kernel)) ggX0_splitsNeeded_X0_crosstalkOf
set_option maxRecDepth 20000 in
theorem ggX0_splitsNeeded_X3_unite : GoodIn wsX0_splitsNeeded wsX3_unite := goodIn_r _ [21, 7, 22, 23, 24, 5, 25, 33] (by decide +kernel) (by decide +kernel)
set_option maxRecDepth 20000 in
theorem gX0_splitsNeeded_X3_unite : GoodIn wsX0_splitsNeeded (wsV RX0 105 RX3 yX3_unite wsX3_unite) := goodIn_app (goodIn_of _ (by decide +kernel)) ggX0_splitsNeeded_X3_unite
theorem dX0_splitsNeeded_0 : decode cX0_splitsNeeded 0 = .ok (.iconst 0, 1) := by decide +kernel
theorem dX0_splitsNeeded_1 : decode cX0_splitsNeeded 1 = .ok (.istore_n 1, 1) := by decide +kernel
theorem dX0_splitsNeeded_2 : decode cX0_splitsNeeded 2 = .ok (.aload_n 0, 1) := by decide +kernel
theorem dX0_splitsNeeded_3 : decode cX0_splitsNeeded 3 = .ok (.getfield 27, 3) := by decide +kernel
theorem dX0_splitsNeeded_6 : decode cX0_splitsNeeded 6 = .ok (.invokevirtual 99, 3) := by decide +kernel
theorem dX0_splitsNeeded_9 : decode cX0_splitsNeeded 9 = .ok (.iconst 0, 1) := by decide +kernel
theorem dX0_splitsNeeded_10 : decode cX0_splitsNeeded 10 = .ok (.istore_n 2, 1) := by decide +kernel
theorem dX0_splitsNeeded_11 : decode cX0_splitsNeeded 11 = .ok (.iload_n 2, 1) := by decide +kernel
theorem dX0_splitsNeeded_12 : decode cX0_splitsNeeded 12 = .ok (.iconst 4, 1) := by decide +kernel
theorem dX0_splitsNeeded_13 : decode cX0_splitsNeeded 13 = .ok (.if_icmp .ge 48, 3) := by decide +kernel
theorem dX0_splitsNeeded_16 : decode cX0_splitsNeeded 16 = .ok (.iload_n 2, 1) := by decide +kernel
theorem dX0_splitsNeeded_17 : decode cX0_splitsNeeded 17 = .ok (.iconst 1, 1) := by decide +kernel
theorem dX0_splitsNeeded_18 : decode cX0_splitsNeeded 18 = .ok (.iadd, 1) := by decide +kernel
theorem dX0_splitsNeeded_19 : decode cX0_splitsNeeded 19 = .ok (.istore_n 3, 1) := by decide +kernel
theorem dX0_splitsNeeded_20 : decode cX0_splitsNeeded 20 = .ok (.iload_n 3, 1) := by decide +kernel
theorem dX0_splitsNeeded_21 : decode cX0_splitsNeeded 21 = .ok (.iconst 4, 1) := by decide +kernel
theorem dX0_splitsNeeded_22 : decode cX0_splitsNeeded 22 = .ok (.if_icmp .ge 33, 3) := by decide +kernel
theorem dX0_splitsNeeded_25 : decode cX0_splitsNeeded 25 = .ok (.aload_n 0, 1) := by decide +kernel
theorem dX0_splitsNeeded_26 : decode cX0_splitsNeeded 26 = .ok (.iload_n 2, 1) := by decide +kernel
theorem dX0_splitsNeeded_27 : decode cX0_splitsNeeded 27 = .ok (.iload_n 3, 1) := by decide +kernel
theorem dX0_splitsNeeded_28 : decode cX0_splitsNeeded 28 = .ok (.invokevirtual 102, 3) := by decide +kernel
theorem dX0_splitsNeeded_31 : decode cX0_splitsNeeded 31 = .ok (.ifCond .eq 18, 3) := by decide +kernel
theorem dX0_splitsNeeded_34 : decode cX0_splitsNeeded 34 = .ok (.aload_n 0, 1) := by decide +kernel
theorem dX0_splitsNeeded_35 : decode cX0_splitsNeeded 35 = .ok (.getfield 27, 3) := by decide +kernel
theorem dX0_splitsNeeded_38 : decode cX0_splitsNeeded 38 = .ok (.iload_n 2, 1) := by decide +kernel
theorem dX0_splitsNeeded_39 : decode cX0_splitsNeeded 39 = .ok (.iload_n 3, 1) := by decide +kernel
theorem dX0_splitsNeeded_40 : decode cX0_splitsNeeded 40 = .ok (.invokevirtual 105, 3) := by decide +kernel
theorem dX0_splitsNeeded_43 : decode cX0_splitsNeeded 43 = .ok (.ifCond .eq 6, 3) := by decide +kernel
theorem dX0_splitsNeeded_46 : decode cX0_splitsNeeded 46 = .ok (.iinc 1 1, 3) := by decide +kernel
theorem dX0_splitsNeeded_49 : decode cX0_splitsNeeded 49 = .ok (.iinc 3 1, 3) := by decide +kernel
theorem dX0_splitsNeeded_52 : decode cX0_splitsNeeded 52 = .ok (.goto (-32), 3) := by decide +kernel
theorem dX0_splitsNeeded_55 : decode cX0_splitsNeeded 55 = .ok (.iinc 2 1, 3) := by decide +kernel
theorem dX0_splitsNeeded_58 : decode cX0_splitsNeeded 58 = .ok (.goto (-47), 3) := by decide +kernel
theorem dX0_splitsNeeded_61 : decode cX0_splitsNeeded 61 = .ok (.iload_n 1, 1) := by decide +kernel
theorem dX0_splitsNeeded_62 : decode cX0_splitsNeeded 62 = .ok (.ireturn, 1) := by decide +kernel
theorem dX1_init_0 : decode cX1_init 0 = .ok (.aload_n 0, 1) := by decide +kernel
theorem dX1_init_1 : decode cX1_init 1 = .ok (.invokespecial 3, 3) := by decide +kernel
theorem dX1_init_4 : decode cX1_init 4 = .ok (.aload_n 0, 1) := by decide +kernel
theorem dX1_init_5 : decode cX1_init 5 = .ok (.bipush 8, 2) := by decide +kernel
theorem dX1_init_7 : decode cX1_init 7 = .ok (.newarray .int, 2) := by decide +kernel
theorem dX1_init_9 : decode cX1_init 9 = .ok (.putfield 9, 3) := by decide +kernel
theorem dX1_init_12 : decode cX1_init 12 = .ok (.aload_n 0, 1) := by decide +kernel
theorem dX1_init_13 : decode cX1_init 13 = .ok (.bipush 8, 2) := by decide +kernel
theorem dX1_init_15 : decode cX1_init 15 = .ok (.newarray .int, 2) := by decide +kernel
theorem dX1_init_17 : decode cX1_init 17 = .ok (.putfield 15, 3) := by decide +kernel
theorem dX1_init_20 : decode cX1_init 20 = .ok (.aload_n 0, 1) := by decide +kernel
theorem dX1_init_21 : decode cX1_init 21 = .ok (.bipush 8, 2) := by decide +kernel
theorem dX1_init_23 : decode cX1_init 23 = .ok (.newarray .int, 2) := by decide +kernel
theorem dX1_init_25 : decode cX1_init 25 = .ok (.putfield 18, 3) := by decide +kernel
theorem dX1_init_28 : decode cX1_init 28 = .ok (.aload_n 0, 1) := by decide +kernel
theorem dX1_init_29 : decode cX1_init 29 = .ok (.bipush 8, 2) := by decide +kernel
theorem dX1_init_31 : decode cX1_init 31 = .ok (.newarray .int, 2) := by decide +kernel
theorem dX1_init_33 : decode cX1_init 33 = .ok (.putfield 21, 3) := by decide +kernel
theorem dX1_init_36 : decode cX1_init 36 = .ok (.return_, 1) := by decide +kernel
set_option maxRecDepth 20000 in
theorem ggX1_findBest_X1_allowFewestCuts : GoodIn wsX1_findBest wsX1_allowFewestCuts := goodIn_r _ [6, 7, 8, 9, 10, 11, 12, 13, 14, 15, 16, 17, 18, 19, 20, 21, 22, 23, 24, 25, 26, 27, 28, 29, 44, 45, 46, 47, 48, 49, 50, 51, 52, 53, 54, 55, 56] (by decide +kernel) (by decide +kernel)
set_option maxRecDepth 20000 in
theorem gX1_findBest_X1_allowFewestCuts : GoodIn wsX1_findBest (wsV RX1 24 RX1 yX1_allowFewestCuts wsX1_allowFewestCuts) := goodIn_app (goodIn_of _ (by decide +kernel)) ggX1_findBest_X1_allowFewestCuts
set_option maxRecDepth 20000 in
theorem ggX1_findBest_X1_tryFarPins : GoodIn wsX1_findBest wsX1_tryFarPins := goodIn_r _ [33, 1, 34, 35, 36, 37, 38, 39, 8, 40, 41, 42, 5, 43, 30, 31, 32, 44, 45, 46, 47, 48] (by decide +kernel) (by decide +kernel)
set_option maxRecDepth 20000 in
theorem gX1_findBest_X1_tryFarPins : GoodIn wsX1_findBest (wsV RX1 32 RX1 yX1_tryFarPins wsX1_tryFarPins) := goodIn_app (goodIn_of _ (by decide +kernel)) ggX1_findBest_X1_tryFarPins
theorem dX1_findBest_0 : decode cX1_findBest 0 = .ok (.aload_n 0, 1) := by decide +kernel
theorem dX1_findBest_1 : decode cX1_findBest 1 = .ok (.aload_n 1, 1) := by decide +kernel
theorem dX1_findBest_2 : decode cX1_findBest 2 = .ok (.invokevirtual 24, 3) := by decide +kernel
theorem dX1_findBest_5 : decode cX1_findBest 5 = .ok (.aload_n 0, 1) := by decide +kernel
theorem dX1_findBest_6 : decode cX1_findBest 6 = .ok (.iconst 0, 1) := by decide +kernel
theorem dX1_findBest_7 : decode cX1_findBest 7 = .ok (.putfield 28, 3) := by decide +kernel
theorem dX1_findBest_10 : decode cX1_findBest 10 = .ok (.aload_n 0, 1) := by decide +kernel
theorem dX1_findBest_11 : decode cX1_findBest 11 = .ok (.iconst 0, 1) := by decide +kernel
theorem dX1_findBest_12 : decode cX1_findBest 12 = .ok (.iconst 0, 1) := by decide +kernel
theorem dX1_findBest_13 : decode cX1_findBest 13 = .ok (.iconst 0, 1) := by decide +kernel
theorem dX1_findBest_14 : decode cX1_findBest 14 = .ok (.invokevirtual 32, 3) := by decide +kernel
theorem dX1_findBest_17 : decode cX1_findBest 17 = .ok (.return_, 1) := by decide +kernel
set_option maxRecDepth 20000 in
theorem ggX1_allowFewestCuts_X5_nearPinsWith : GoodIn wsX1_allowFewestCuts wsX5_nearPinsWith := goodIn_r _ [7, 8, 9, 10, 6, 11, 12, 29, 30, 31, 32, 33, 34, 35, 36] (by decide +kernel) (by decide +kernel)
set_option maxRecDepth 20000 in
theorem gX1_allowFewestCuts_X5_nearPinsWith : GoodIn wsX1_allowFewestCuts (wsV RX1 36 RX5 yX5_nearPinsWith wsX5_nearPinsWith) := goodIn_app (goodIn_of _ (by decide +kernel)) ggX1_allowFewestCuts_X5_nearPinsWith
set_option maxRecDepth 20000 in
theorem ggX1_allowFewestCuts_J6_bitCount_0f7a4 : GoodIn wsX1_allowFewestCuts wsJ6_bitCount_0f7a4 := goodIn_r _ [16, 17, 18, 19] (by decide +kernel) (by decide +kernel)
set_option maxRecDepth 20000 in
theorem gX1_allowFewestCuts_J6_bitCount_0f7a4 : GoodIn wsX1_allowFewestCuts (va_wsS RX1 42 yJ6_bitCount_0f7a4 wsJ6_bitCount_0f7a4) := goodIn_app (goodIn_of _ (by decide +kernel)) ggX1_allowFewestCuts_J6_bitCount_0f7a4
set_option maxRecDepth 20000 in
theorem ggX1_allowFewestCuts_X5_farPinsWith : GoodIn wsX1_allowFewestCuts wsX5_farPinsWith := goodIn_r _ [23, 8, 9, 10, 6, 11, 12, 29, 30, 31, 32, 33, 34, 35, 36] (by decide +kernel) (by decide +kernel)
set_option maxRecDepth 20000 in
theorem gX1_allowFewestCuts_X5_farPinsWith : GoodIn wsX1_allowFewestCuts (wsV RX1 48 RX5 yX5_farPinsWith wsX5_farPinsWith) := goodIn_app (goodIn_of _ (by decide +kernel)) ggX1_allowFewestCuts_X5_farPinsWith
theorem dX1_allowFewestCuts_0 : decode cX1_allowFewestCuts 0 = .ok (.iconst 0, 1) := by decide +kernel
theorem dX1_allowFewestCuts_1 : decode cX1_allowFewestCuts 1 = .ok (.istore_n 2, 1) := by decide +kernel
theorem dX1_allowFewestCuts_2 : decode cX1_allowFewestCuts 2 = .ok (.iconst 0, 1) := by decide +kernel
theorem dX1_allowFewestCuts_3 : decode cX1_allowFewestCuts 3 = .ok (.istore_n 3, 1) := by decide +kernel
theorem dX1_allowFewestCuts_4 : decode cX1_allowFewestCuts 4 = .ok (.iload_n 3, 1) := by decide +kernel
theorem dX1_allowFewestCuts_5 : decode cX1_allowFewestCuts 5 = .ok (.bipush 8, 2) := by decide +kernel
theorem dX1_allowFewestCuts_7 : decode cX1_allowFewestCuts 7 = .ok (.if_icmp .ge 40, 3) := by decide +kernel
theorem dX1_allowFewestCuts_10 : decode cX1_allowFewestCuts 10 = .ok (.aload_n 1, 1) := by decide +kernel
theorem dX1_allowFewestCuts_11 : decode cX1_allowFewestCuts 11 = .ok (.iconst 1, 1) := by decide +kernel
theorem dX1_allowFewestCuts_12 : decode cX1_allowFewestCuts 12 = .ok (.iload_n 3, 1) := by decide +kernel
theorem dX1_allowFewestCuts_13 : decode cX1_allowFewestCuts 13 = .ok (.invokevirtual 36, 3) := by decide +kernel
theorem dX1_allowFewestCuts_16 : decode cX1_allowFewestCuts 16 = .ok (.invokestatic 42, 3) := by decide +kernel
theorem dX1_allowFewestCuts_19 : decode cX1_allowFewestCuts 19 = .ok (.istore 4, 2) := by decide +kernel
theorem dX1_allowFewestCuts_21 : decode cX1_allowFewestCuts 21 = .ok (.aload_n 1, 1) := by decide +kernel
theorem dX1_allowFewestCuts_22 : decode cX1_allowFewestCuts 22 = .ok (.iconst 1, 1) := by decide +kernel
theorem dX1_allowFewestCuts_23 : decode cX1_allowFewestCuts 23 = .ok (.iload_n 3, 1) := by decide +kernel
theorem dX1_allowFewestCuts_24 : decode cX1_allowFewestCuts 24 = .ok (.invokevirtual 48, 3) := by decide +kernel
theorem dX1_allowFewestCuts_27 : decode cX1_allowFewestCuts 27 = .ok (.invokestatic 42, 3) := by decide +kernel
theorem dX1_allowFewestCuts_30 : decode cX1_allowFewestCuts 30 = .ok (.iload 4, 2) := by decide +kernel
theorem dX1_allowFewestCuts_32 : decode cX1_allowFewestCuts 32 = .ok (.if_icmp .le 9, 3) := by decide +kernel
theorem dX1_allowFewestCuts_35 : decode cX1_allowFewestCuts 35 = .ok (.iload_n 2, 1) := by decide +kernel
theorem dX1_allowFewestCuts_36 : decode cX1_allowFewestCuts 36 = .ok (.iconst 1, 1) := by decide +kernel
theorem dX1_allowFewestCuts_37 : decode cX1_allowFewestCuts 37 = .ok (.iload_n 3, 1) := by decide +kernel
theorem dX1_allowFewestCuts_38 : decode cX1_allowFewestCuts 38 = .ok (.ishl, 1) := by decide +kernel
theorem dX1_allowFewestCuts_39 : decode cX1_allowFewestCuts 39 = .ok (.ior, 1) := by decide +kernel
theorem dX1_allowFewestCuts_40 : decode cX1_allowFewestCuts 40 = .ok (.istore_n 2, 1) := by decide +kernel
theorem dX1_allowFewestCuts_41 : decode cX1_allowFewestCuts 41 = .ok (.iinc 3 1, 3) := by decide +kernel
theorem dX1_allowFewestCuts_44 : decode cX1_allowFewestCuts 44 = .ok (.goto (-40), 3) := by decide +kernel
theorem dX1_allowFewestCuts_47 : decode cX1_allowFewestCuts 47 = .ok (.iconst 0, 1) := by decide +kernel
theorem dX1_allowFewestCuts_48 : decode cX1_allowFewestCuts 48 = .ok (.istore_n 3, 1) := by decide +kernel
theorem dX1_allowFewestCuts_49 : decode cX1_allowFewestCuts 49 = .ok (.iload_n 3, 1) := by decide +kernel
theorem dX1_allowFewestCuts_50 : decode cX1_allowFewestCuts 50 = .ok (.bipush 8, 2) := by decide +kernel
theorem dX1_allowFewestCuts_52 : decode cX1_allowFewestCuts 52 = .ok (.if_icmp .ge 81, 3) := by decide +kernel
theorem dX1_allowFewestCuts_55 : decode cX1_allowFewestCuts 55 = .ok (.aload_n 1, 1) := by decide +kernel
theorem dX1_allowFewestCuts_56 : decode cX1_allowFewestCuts 56 = .ok (.iconst 0, 1) := by decide +kernel
theorem dX1_allowFewestCuts_57 : decode cX1_allowFewestCuts 57 = .ok (.iload_n 3, 1) := by decide +kernel
theorem dX1_allowFewestCuts_58 : decode cX1_allowFewestCuts 58 = .ok (.invokevirtual 36, 3) := by decide +kernel
theorem dX1_allowFewestCuts_61 : decode cX1_allowFewestCuts 61 = .ok (.invokestatic 42, 3) := by decide +kernel
theorem dX1_allowFewestCuts_64 : decode cX1_allowFewestCuts 64 = .ok (.istore 4, 2) := by decide +kernel
theorem dX1_allowFewestCuts_66 : decode cX1_allowFewestCuts 66 = .ok (.aload_n 0, 1) := by decide +kernel
theorem dX1_allowFewestCuts_67 : decode cX1_allowFewestCuts 67 = .ok (.getfield 9, 3) := by decide +kernel
theorem dX1_allowFewestCuts_70 : decode cX1_allowFewestCuts 70 = .ok (.iload_n 3, 1) := by decide +kernel
theorem dX1_allowFewestCuts_71 : decode cX1_allowFewestCuts 71 = .ok (.aload_n 1, 1) := by decide +kernel
theorem dX1_allowFewestCuts_72 : decode cX1_allowFewestCuts 72 = .ok (.iconst 0, 1) := by decide +kernel
theorem dX1_allowFewestCuts_73 : decode cX1_allowFewestCuts 73 = .ok (.iload_n 3, 1) := by decide +kernel
theorem dX1_allowFewestCuts_74 : decode cX1_allowFewestCuts 74 = .ok (.invokevirtual 48, 3) := by decide +kernel
theorem dX1_allowFewestCuts_77 : decode cX1_allowFewestCuts 77 = .ok (.iastore, 1) := by decide +kernel
theorem dX1_allowFewestCuts_78 : decode cX1_allowFewestCuts 78 = .ok (.iload 4, 2) := by decide +kernel
theorem dX1_allowFewestCuts_80 : decode cX1_allowFewestCuts 80 = .ok (.aload_n 0, 1) := by decide +kernel
theorem dX1_allowFewestCuts_81 : decode cX1_allowFewestCuts 81 = .ok (.getfield 9, 3) := by decide +kernel
theorem dX1_allowFewestCuts_84 : decode cX1_allowFewestCuts 84 = .ok (.iload_n 3, 1) := by decide +kernel
theorem dX1_allowFewestCuts_85 : decode cX1_allowFewestCuts 85 = .ok (.iaload, 1) := by decide +kernel
theorem dX1_allowFewestCuts_86 : decode cX1_allowFewestCuts 86 = .ok (.invokestatic 42, 3) := by decide +kernel
theorem dX1_allowFewestCuts_89 : decode cX1_allowFewestCuts 89 = .ok (.if_icmp .le 7, 3) := by decide +kernel
theorem dX1_allowFewestCuts_92 : decode cX1_allowFewestCuts 92 = .ok (.iconst 1, 1) := by decide +kernel
theorem dX1_allowFewestCuts_93 : decode cX1_allowFewestCuts 93 = .ok (.goto 4, 3) := by decide +kernel
theorem dX1_allowFewestCuts_96 : decode cX1_allowFewestCuts 96 = .ok (.iconst 0, 1) := by decide +kernel
theorem dX1_allowFewestCuts_97 : decode cX1_allowFewestCuts 97 = .ok (.istore 5, 2) := by decide +kernel
theorem dX1_allowFewestCuts_99 : decode cX1_allowFewestCuts 99 = .ok (.aload_n 0, 1) := by decide +kernel
theorem dX1_allowFewestCuts_100 : decode cX1_allowFewestCuts 100 = .ok (.getfield 15, 3) := by decide +kernel
theorem dX1_allowFewestCuts_103 : decode cX1_allowFewestCuts 103 = .ok (.iload_n 3, 1) := by decide +kernel
theorem dX1_allowFewestCuts_104 : decode cX1_allowFewestCuts 104 = .ok (.iload 5, 2) := by decide +kernel
theorem dX1_allowFewestCuts_106 : decode cX1_allowFewestCuts 106 = .ok (.ifCond .eq 14, 3) := by decide +kernel
theorem dX1_allowFewestCuts_109 : decode cX1_allowFewestCuts 109 = .ok (.aload_n 0, 1) := by decide +kernel
theorem dX1_allowFewestCuts_110 : decode cX1_allowFewestCuts 110 = .ok (.getfield 9, 3) := by decide +kernel
theorem dX1_allowFewestCuts_113 : decode cX1_allowFewestCuts 113 = .ok (.iload_n 3, 1) := by decide +kernel
theorem dX1_allowFewestCuts_114 : decode cX1_allowFewestCuts 114 = .ok (.iaload, 1) := by decide +kernel
theorem dX1_allowFewestCuts_115 : decode cX1_allowFewestCuts 115 = .ok (.iload_n 2, 1) := by decide +kernel
theorem dX1_allowFewestCuts_116 : decode cX1_allowFewestCuts 116 = .ok (.ior, 1) := by decide +kernel
theorem dX1_allowFewestCuts_117 : decode cX1_allowFewestCuts 117 = .ok (.goto 9, 3) := by decide +kernel
theorem dX1_allowFewestCuts_120 : decode cX1_allowFewestCuts 120 = .ok (.aload_n 0, 1) := by decide +kernel
theorem dX1_allowFewestCuts_121 : decode cX1_allowFewestCuts 121 = .ok (.getfield 9, 3) := by decide +kernel
theorem dX1_allowFewestCuts_124 : decode cX1_allowFewestCuts 124 = .ok (.iload_n 3, 1) := by decide +kernel
theorem dX1_allowFewestCuts_125 : decode cX1_allowFewestCuts 125 = .ok (.iaload, 1) := by decide +kernel
theorem dX1_allowFewestCuts_126 : decode cX1_allowFewestCuts 126 = .ok (.iastore, 1) := by decide +kernel
theorem dX1_allowFewestCuts_127 : decode cX1_allowFewestCuts 127 = .ok (.iinc 3 1, 3) := by decide +kernel
theorem dX1_allowFewestCuts_130 : decode cX1_allowFewestCuts 130 = .ok (.goto (-81), 3) := by decide +kernel
theorem dX1_allowFewestCuts_133 : decode cX1_allowFewestCuts 133 = .ok (.return_, 1) := by decide +kernel
set_option maxRecDepth 20000 in
theorem ggX1_tryFarPins_X1_closesCycle : GoodIn wsX1_tryFarPins wsX1_closesCycle := goodIn_r _ [13, 2, 17, 18, 19, 20, 21] (by decide +kernel) (by decide +kernel)
set_option maxRecDepth 20000 in
theorem gX1_tryFarPins_X1_closesCycle : GoodIn wsX1_tryFarPins (wsV RX1 57 RX1 yX1_closesCycle wsX1_closesCycle) := goodIn_app (goodIn_of _ (by decide +kernel)) ggX1_tryFarPins_X1_closesCycle
set_option maxRecDepth 20000 in
theorem ggX1_tryFarPins_X1_tryFarPins : GoodIn wsX1_tryFarPins wsX1_tryFarPins := goodIn_r _ [0, 1, 2, 3, 4, 5, 6, 7, 8, 9, 10, 11, 12, 13, 14, 15, 16, 17, 18, 19, 20, 21] (by decide +kernel) (by decide +kernel)
set_option maxRecDepth 20000 in
theorem gX1_tryFarPins_X1_tryFarPins : GoodIn wsX1_tryFarPins (wsV RX1 32 RX1 yX1_tryFarPins wsX1_tryFarPins) := goodIn_app (goodIn_of _ (by decide +kernel)) ggX1_tryFarPins_X1_tryFarPins
theorem dX1_tryFarPins_0 : decode cX1_tryFarPins 0 = .ok (.iload_n 3, 1) := by decide +kernel
theorem dX1_tryFarPins_1 : decode cX1_tryFarPins 1 = .ok (.bipush 8, 2) := by decide +kernel
theorem dX1_tryFarPins_3 : decode cX1_tryFarPins 3 = .ok (.iadd, 1) := by decide +kernel
theorem dX1_tryFarPins_4 : decode cX1_tryFarPins 4 = .ok (.iload_n 1, 1) := by decide +kernel
theorem dX1_tryFarPins_5 : decode cX1_tryFarPins 5 = .ok (.isub, 1) := by decide +kernel
theorem dX1_tryFarPins_6 : decode cX1_tryFarPins 6 = .ok (.aload_n 0, 1) := by decide +kernel
theorem dX1_tryFarPins_7 : decode cX1_tryFarPins 7 = .ok (.getfield 28, 3) := by decide +kernel
theorem dX1_tryFarPins_10 : decode cX1_tryFarPins 10 = .ok (.if_icmp .gt 4, 3) := by decide +kernel
theorem dX1_tryFarPins_13 : decode cX1_tryFarPins 13 = .ok (.return_, 1) := by decide +kernel
theorem dX1_tryFarPins_14 : decode cX1_tryFarPins 14 = .ok (.iload_n 1, 1) := by decide +kernel
theorem dX1_tryFarPins_15 : decode cX1_tryFarPins 15 = .ok (.bipush 8, 2) := by decide +kernel
theorem dX1_tryFarPins_17 : decode cX1_tryFarPins 17 = .ok (.if_icmp .lt 24, 3) := by decide +kernel
theorem dX1_tryFarPins_20 : decode cX1_tryFarPins 20 = .ok (.aload_n 0, 1) := by decide +kernel
theorem dX1_tryFarPins_21 : decode cX1_tryFarPins 21 = .ok (.iload_n 3, 1) := by decide +kernel
theorem dX1_tryFarPins_22 : decode cX1_tryFarPins 22 = .ok (.putfield 28, 3) := by decide +kernel
theorem dX1_tryFarPins_25 : decode cX1_tryFarPins 25 = .ok (.aload_n 0, 1) := by decide +kernel
theorem dX1_tryFarPins_26 : decode cX1_tryFarPins 26 = .ok (.getfield 18, 3) := by decide +kernel
theorem dX1_tryFarPins_29 : decode cX1_tryFarPins 29 = .ok (.iconst 0, 1) := by decide +kernel
theorem dX1_tryFarPins_30 : decode cX1_tryFarPins 30 = .ok (.aload_n 0, 1) := by decide +kernel
theorem dX1_tryFarPins_31 : decode cX1_tryFarPins 31 = .ok (.getfield 21, 3) := by decide +kernel
theorem dX1_tryFarPins_34 : decode cX1_tryFarPins 34 = .ok (.iconst 0, 1) := by decide +kernel
theorem dX1_tryFarPins_35 : decode cX1_tryFarPins 35 = .ok (.bipush 8, 2) := by decide +kernel
theorem dX1_tryFarPins_37 : decode cX1_tryFarPins 37 = .ok (.invokestatic 51, 3) := by decide +kernel
theorem dX1_tryFarPins_40 : decode cX1_tryFarPins 40 = .ok (.return_, 1) := by decide +kernel
theorem dX1_tryFarPins_41 : decode cX1_tryFarPins 41 = .ok (.iconst 0, 1) := by decide +kernel
theorem dX1_tryFarPins_42 : decode cX1_tryFarPins 42 = .ok (.istore 4, 2) := by decide +kernel
theorem dX1_tryFarPins_44 : decode cX1_tryFarPins 44 = .ok (.iload 4, 2) := by decide +kernel
theorem dX1_tryFarPins_46 : decode cX1_tryFarPins 46 = .ok (.bipush 8, 2) := by decide +kernel
theorem dX1_tryFarPins_48 : decode cX1_tryFarPins 48 = .ok (.if_icmp .ge 63, 3) := by decide +kernel
theorem dX1_tryFarPins_51 : decode cX1_tryFarPins 51 = .ok (.aload_n 0, 1) := by decide +kernel
theorem dX1_tryFarPins_52 : decode cX1_tryFarPins 52 = .ok (.getfield 15, 3) := by decide +kernel
theorem dX1_tryFarPins_55 : decode cX1_tryFarPins 55 = .ok (.iload_n 1, 1) := by decide +kernel
theorem dX1_tryFarPins_56 : decode cX1_tryFarPins 56 = .ok (.iaload, 1) := by decide +kernel
theorem dX1_tryFarPins_57 : decode cX1_tryFarPins 57 = .ok (.iload_n 2, 1) := by decide +kernel
theorem dX1_tryFarPins_58 : decode cX1_tryFarPins 58 = .ok (.iconst (-1), 1) := by decide +kernel
theorem dX1_tryFarPins_59 : decode cX1_tryFarPins 59 = .ok (.ixor, 1) := by decide +kernel
theorem dX1_tryFarPins_60 : decode cX1_tryFarPins 60 = .ok (.iand, 1) := by decide +kernel
theorem dX1_tryFarPins_61 : decode cX1_tryFarPins 61 = .ok (.iconst 1, 1) := by decide +kernel
theorem dX1_tryFarPins_62 : decode cX1_tryFarPins 62 = .ok (.iload 4, 2) := by decide +kernel
theorem dX1_tryFarPins_64 : decode cX1_tryFarPins 64 = .ok (.ishl, 1) := by decide +kernel
theorem dX1_tryFarPins_65 : decode cX1_tryFarPins 65 = .ok (.iand, 1) := by decide +kernel
theorem dX1_tryFarPins_66 : decode cX1_tryFarPins 66 = .ok (.ifCond .eq 39, 3) := by decide +kernel
theorem dX1_tryFarPins_69 : decode cX1_tryFarPins 69 = .ok (.aload_n 0, 1) := by decide +kernel
theorem dX1_tryFarPins_70 : decode cX1_tryFarPins 70 = .ok (.getfield 18, 3) := by decide +kernel
theorem dX1_tryFarPins_73 : decode cX1_tryFarPins 73 = .ok (.iload_n 1, 1) := by decide +kernel
theorem dX1_tryFarPins_74 : decode cX1_tryFarPins 74 = .ok (.iload 4, 2) := by decide +kernel
theorem dX1_tryFarPins_76 : decode cX1_tryFarPins 76 = .ok (.iastore, 1) := by decide +kernel
theorem dX1_tryFarPins_77 : decode cX1_tryFarPins 77 = .ok (.aload_n 0, 1) := by decide +kernel
theorem dX1_tryFarPins_78 : decode cX1_tryFarPins 78 = .ok (.iload_n 1, 1) := by decide +kernel
theorem dX1_tryFarPins_79 : decode cX1_tryFarPins 79 = .ok (.iconst 1, 1) := by decide +kernel
theorem dX1_tryFarPins_80 : decode cX1_tryFarPins 80 = .ok (.iadd, 1) := by decide +kernel
theorem dX1_tryFarPins_81 : decode cX1_tryFarPins 81 = .ok (.iload_n 2, 1) := by decide +kernel
theorem dX1_tryFarPins_82 : decode cX1_tryFarPins 82 = .ok (.iconst 1, 1) := by decide +kernel
theorem dX1_tryFarPins_83 : decode cX1_tryFarPins 83 = .ok (.iload 4, 2) := by decide +kernel
theorem dX1_tryFarPins_85 : decode cX1_tryFarPins 85 = .ok (.ishl, 1) := by decide +kernel
theorem dX1_tryFarPins_86 : decode cX1_tryFarPins 86 = .ok (.ior, 1) := by decide +kernel
theorem dX1_tryFarPins_87 : decode cX1_tryFarPins 87 = .ok (.aload_n 0, 1) := by decide +kernel
theorem dX1_tryFarPins_88 : decode cX1_tryFarPins 88 = .ok (.iload_n 1, 1) := by decide +kernel
theorem dX1_tryFarPins_89 : decode cX1_tryFarPins 89 = .ok (.invokevirtual 57, 3) := by decide +kernel
theorem dX1_tryFarPins_92 : decode cX1_tryFarPins 92 = .ok (.ifCond .eq 9, 3) := by decide +kernel
theorem dX1_tryFarPins_95 : decode cX1_tryFarPins 95 = .ok (.iload_n 3, 1) := by decide +kernel
theorem dX1_tryFarPins_96 : decode cX1_tryFarPins 96 = .ok (.iconst 1, 1) := by decide +kernel
theorem dX1_tryFarPins_97 : decode cX1_tryFarPins 97 = .ok (.iadd, 1) := by decide +kernel
theorem dX1_tryFarPins_98 : decode cX1_tryFarPins 98 = .ok (.goto 4, 3) := by decide +kernel
theorem dX1_tryFarPins_101 : decode cX1_tryFarPins 101 = .ok (.iload_n 3, 1) := by decide +kernel
theorem dX1_tryFarPins_102 : decode cX1_tryFarPins 102 = .ok (.invokevirtual 32, 3) := by decide +kernel
theorem dX1_tryFarPins_105 : decode cX1_tryFarPins 105 = .ok (.iinc 4 1, 3) := by decide +kernel
theorem dX1_tryFarPins_108 : decode cX1_tryFarPins 108 = .ok (.goto (-64), 3) := by decide +kernel
theorem dX1_tryFarPins_111 : decode cX1_tryFarPins 111 = .ok (.return_, 1) := by decide +kernel
theorem dX1_closesCycle_0 : decode cX1_closesCycle 0 = .ok (.aload_n 0, 1) := by decide +kernel
theorem dX1_closesCycle_1 : decode cX1_closesCycle 1 = .ok (.getfield 18, 3) := by decide +kernel
theorem dX1_closesCycle_4 : decode cX1_closesCycle 4 = .ok (.iload_n 1, 1) := by decide +kernel
theorem dX1_closesCycle_5 : decode cX1_closesCycle 5 = .ok (.iaload, 1) := by decide +kernel
theorem dX1_closesCycle_6 : decode cX1_closesCycle 6 = .ok (.istore_n 2, 1) := by decide +kernel
theorem dX1_closesCycle_7 : decode cX1_closesCycle 7 = .ok (.iconst 0, 1) := by decide +kernel
theorem dX1_closesCycle_8 : decode cX1_closesCycle 8 = .ok (.istore_n 3, 1) := by decide +kernel
theorem dX1_closesCycle_9 : decode cX1_closesCycle 9 = .ok (.iload_n 3, 1) := by decide +kernel
theorem dX1_closesCycle_10 : decode cX1_closesCycle 10 = .ok (.bipush 8, 2) := by decide +kernel
theorem dX1_closesCycle_12 : decode cX1_closesCycle 12 = .ok (.if_icmp .ge 25, 3) := by decide +kernel
theorem dX1_closesCycle_15 : decode cX1_closesCycle 15 = .ok (.iload_n 2, 1) := by decide +kernel
theorem dX1_closesCycle_16 : decode cX1_closesCycle 16 = .ok (.ifCond .lt 21, 3) := by decide +kernel
theorem dX1_closesCycle_19 : decode cX1_closesCycle 19 = .ok (.iload_n 2, 1) := by decide +kernel
theorem dX1_closesCycle_20 : decode cX1_closesCycle 20 = .ok (.iload_n 1, 1) := by decide +kernel
theorem dX1_closesCycle_21 : decode cX1_closesCycle 21 = .ok (.if_icmp .ge 16, 3) := by decide +kernel
theorem dX1_closesCycle_24 : decode cX1_closesCycle 24 = .ok (.aload_n 0, 1) := by decide +kernel
theorem dX1_closesCycle_25 : decode cX1_closesCycle 25 = .ok (.getfield 18, 3) := by decide +kernel
theorem dX1_closesCycle_28 : decode cX1_closesCycle 28 = .ok (.iload_n 2, 1) := by decide +kernel
theorem dX1_closesCycle_29 : decode cX1_closesCycle 29 = .ok (.iaload, 1) := by decide +kernel
theorem dX1_closesCycle_30 : decode cX1_closesCycle 30 = .ok (.istore_n 2, 1) := by decide +kernel
theorem dX1_closesCycle_31 : decode cX1_closesCycle 31 = .ok (.iinc 3 1, 3) := by decide +kernel
theorem dX1_closesCycle_34 : decode cX1_closesCycle 34 = .ok (.goto (-25), 3) := by decide +kernel
theorem dX1_closesCycle_37 : decode cX1_closesCycle 37 = .ok (.iload_n 2, 1) := by decide +kernel
theorem dX1_closesCycle_38 : decode cX1_closesCycle 38 = .ok (.iload_n 1, 1) := by decide +kernel
theorem dX1_closesCycle_39 : decode cX1_closesCycle 39 = .ok (.if_icmp .ne 7, 3) := by decide +kernel
theorem dX1_closesCycle_42 : decode cX1_closesCycle 42 = .ok (.iconst 1, 1) := by decide +kernel
theorem dX1_closesCycle_43 : decode cX1_closesCycle 43 = .ok (.goto 4, 3) := by decide +kernel
theorem dX1_closesCycle_46 : decode cX1_closesCycle 46 = .ok (.iconst 0, 1) := by decide +kernel
theorem dX1_closesCycle_47 : decode cX1_closesCycle 47 = .ok (.ireturn, 1) := by decide +kernel
theorem dX1_cuts_0 : decode cX1_cuts 0 = .ok (.iconst 0, 1) := by decide +kernel
theorem dX1_cuts_1 : decode cX1_cuts 1 = .ok (.istore_n 1, 1) := by decide +kernel
theorem dX1_cuts_2 : decode cX1_cuts 2 = .ok (.iconst 0, 1) := by decide +kernel
theorem dX1_cuts_3 : decode cX1_cuts 3 = .ok (.istore_n 2, 1) := by decide +kernel
theorem dX1_cuts_4 : decode cX1_cuts 4 = .ok (.iload_n 2, 1) := by decide +kernel
theorem dX1_cuts_5 : decode cX1_cuts 5 = .ok (.bipush 8, 2) := by decide +kernel
theorem dX1_cuts_7 : decode cX1_cuts 7 = .ok (.if_icmp .ge 30, 3) := by decide +kernel
theorem dX1_cuts_10 : decode cX1_cuts 10 = .ok (.aload_n 0, 1) := by decide +kernel
theorem dX1_cuts_11 : decode cX1_cuts 11 = .ok (.getfield 9, 3) := by decide +kernel
theorem dX1_cuts_14 : decode cX1_cuts 14 = .ok (.iload_n 2, 1) := by decide +kernel
theorem dX1_cuts_15 : decode cX1_cuts 15 = .ok (.iaload, 1) := by decide +kernel
theorem dX1_cuts_16 : decode cX1_cuts 16 = .ok (.aload_n 0, 1) := by decide +kernel
theorem dX1_cuts_17 : decode cX1_cuts 17 = .ok (.getfield 21, 3) := by decide +kernel
theorem dX1_cuts_20 : decode cX1_cuts 20 = .ok (.iload_n 2, 1) := by decide +kernel
theorem dX1_cuts_21 : decode cX1_cuts 21 = .ok (.iaload, 1) := by decide +kernel
theorem dX1_cuts_22 : decode cX1_cuts 22 = .ok (.ishr, 1) := by decide +kernel
theorem dX1_cuts_23 : decode cX1_cuts 23 = .ok (.iconst 1, 1) := by decide +kernel
theorem dX1_cuts_24 : decode cX1_cuts 24 = .ok (.iand, 1) := by decide +kernel
theorem dX1_cuts_25 : decode cX1_cuts 25 = .ok (.ifCond .ne 6, 3) := by decide +kernel
theorem dX1_cuts_28 : decode cX1_cuts 28 = .ok (.iinc 1 1, 3) := by decide +kernel
theorem dX1_cuts_31 : decode cX1_cuts 31 = .ok (.iinc 2 1, 3) := by decide +kernel
theorem dX1_cuts_34 : decode cX1_cuts 34 = .ok (.goto (-30), 3) := by decide +kernel
theorem dX1_cuts_37 : decode cX1_cuts 37 = .ok (.iload_n 1, 1) := by decide +kernel
theorem dX1_cuts_38 : decode cX1_cuts 38 = .ok (.ireturn, 1) := by decide +kernel
theorem dX1_exchanges_0 : decode cX1_exchanges 0 = .ok (.bipush 8, 2) := by decide +kernel
theorem dX1_exchanges_2 : decode cX1_exchanges 2 = .ok (.aload_n 0, 1) := by decide +kernel
theorem dX1_exchanges_3 : decode cX1_exchanges 3 = .ok (.getfield 28, 3) := by decide +kernel
theorem dX1_exchanges_6 : decode cX1_exchanges 6 = .ok (.isub, 1) := by decide +kernel
theorem dX1_exchanges_7 : decode cX1_exchanges 7 = .ok (.ireturn, 1) := by decide +kernel
theorem dX1_farPinFor_0 : decode cX1_farPinFor 0 = .ok (.iload_n 1, 1) := by decide +kernel
theorem dX1_farPinFor_1 : decode cX1_farPinFor 1 = .ok (.ifCond .lt 21, 3) := by decide +kernel
theorem dX1_farPinFor_4 : decode cX1_farPinFor 4 = .ok (.iload_n 1, 1) := by decide +kernel
theorem dX1_farPinFor_5 : decode cX1_farPinFor 5 = .ok (.aload_n 0, 1) := by decide +kernel
theorem dX1_farPinFor_6 : decode cX1_farPinFor 6 = .ok (.getfield 21, 3) := by decide +kernel
theorem dX1_farPinFor_9 : decode cX1_farPinFor 9 = .ok (.arraylength, 1) := by decide +kernel
theorem dX1_farPinFor_10 : decode cX1_farPinFor 10 = .ok (.if_icmp .ge 12, 3) := by decide +kernel
theorem dX1_farPinFor_13 : decode cX1_farPinFor 13 = .ok (.aload_n 0, 1) := by decide +kernel
theorem dX1_farPinFor_14 : decode cX1_farPinFor 14 = .ok (.getfield 21, 3) := by decide +kernel
theorem dX1_farPinFor_17 : decode cX1_farPinFor 17 = .ok (.iload_n 1, 1) := by decide +kernel
theorem dX1_farPinFor_18 : decode cX1_farPinFor 18 = .ok (.iaload, 1) := by decide +kernel
theorem dX1_farPinFor_19 : decode cX1_farPinFor 19 = .ok (.goto 4, 3) := by decide +kernel
theorem dX1_farPinFor_22 : decode cX1_farPinFor 22 = .ok (.iconst (-1), 1) := by decide +kernel
theorem dX1_farPinFor_23 : decode cX1_farPinFor 23 = .ok (.ireturn, 1) := by decide +kernel
theorem dX2_init_0 : decode cX2_init 0 = .ok (.aload_n 0, 1) := by decide +kernel
theorem dX2_init_1 : decode cX2_init 1 = .ok (.invokespecial 3, 3) := by decide +kernel
theorem dX2_init_4 : decode cX2_init 4 = .ok (.aload_n 0, 1) := by decide +kernel
theorem dX2_init_5 : decode cX2_init 5 = .ok (.iload_n 1, 1) := by decide +kernel
theorem dX2_init_6 : decode cX2_init 6 = .ok (.putfield 9, 3) := by decide +kernel
theorem dX2_init_9 : decode cX2_init 9 = .ok (.aload_n 0, 1) := by decide +kernel
theorem dX2_init_10 : decode cX2_init 10 = .ok (.iload_n 2, 1) := by decide +kernel
theorem dX2_init_11 : decode cX2_init 11 = .ok (.putfield 15, 3) := by decide +kernel
theorem dX2_init_14 : decode cX2_init 14 = .ok (.aload_n 0, 1) := by decide +kernel
theorem dX2_init_15 : decode cX2_init 15 = .ok (.iload_n 3, 1) := by decide +kernel
theorem dX2_init_16 : decode cX2_init 16 = .ok (.putfield 18, 3) := by decide +kernel
theorem dX2_init_19 : decode cX2_init 19 = .ok (.aload_n 0, 1) := by decide +kernel
theorem dX2_init_20 : decode cX2_init 20 = .ok (.iload 4, 2) := by decide +kernel
theorem dX2_init_22 : decode cX2_init 22 = .ok (.putfield 21, 3) := by decide +kernel
theorem dX2_init_25 : decode cX2_init 25 = .ok (.aload_n 0, 1) := by decide +kernel
theorem dX2_init_26 : decode cX2_init 26 = .ok (.iload 5, 2) := by decide +kernel
theorem dX2_init_28 : decode cX2_init 28 = .ok (.putfield 24, 3) := by decide +kernel
theorem dX2_init_31 : decode cX2_init 31 = .ok (.return_, 1) := by decide +kernel
theorem dX2_isShort_0 : decode cX2_isShort 0 = .ok (.aload_n 0, 1) := by decide +kernel
theorem dX2_isShort_1 : decode cX2_isShort 1 = .ok (.getfield 15, 3) := by decide +kernel
theorem dX2_isShort_4 : decode cX2_isShort 4 = .ok (.iconst (-1), 1) := by decide +kernel
theorem dX2_isShort_5 : decode cX2_isShort 5 = .ok (.if_icmp .eq 7, 3) := by decide +kernel
theorem dX2_isShort_8 : decode cX2_isShort 8 = .ok (.iconst 1, 1) := by decide +kernel
theorem dX2_isShort_9 : decode cX2_isShort 9 = .ok (.goto 4, 3) := by decide +kernel
theorem dX2_isShort_12 : decode cX2_isShort 12 = .ok (.iconst 0, 1) := by decide +kernel
theorem dX2_isShort_13 : decode cX2_isShort 13 = .ok (.ireturn, 1) := by decide +kernel
theorem dX2_isPresent_0 : decode cX2_isPresent 0 = .ok (.aload_n 0, 1) := by decide +kernel
theorem dX2_isPresent_1 : decode cX2_isPresent 1 = .ok (.getfield 21, 3) := by decide +kernel
theorem dX2_isPresent_4 : decode cX2_isPresent 4 = .ok (.ifCond .le 20, 3) := by decide +kernel
theorem dX2_isPresent_7 : decode cX2_isPresent 7 = .ok (.iload_n 1, 1) := by decide +kernel
theorem dX2_isPresent_8 : decode cX2_isPresent 8 = .ok (.aload_n 0, 1) := by decide +kernel
theorem dX2_isPresent_9 : decode cX2_isPresent 9 = .ok (.getfield 21, 3) := by decide +kernel
theorem dX2_isPresent_12 : decode cX2_isPresent 12 = .ok (.irem, 1) := by decide +kernel
theorem dX2_isPresent_13 : decode cX2_isPresent 13 = .ok (.aload_n 0, 1) := by decide +kernel
theorem dX2_isPresent_14 : decode cX2_isPresent 14 = .ok (.getfield 24, 3) := by decide +kernel
theorem dX2_isPresent_17 : decode cX2_isPresent 17 = .ok (.if_icmp .ge 7, 3) := by decide +kernel
theorem dX2_isPresent_20 : decode cX2_isPresent 20 = .ok (.iconst 1, 1) := by decide +kernel
theorem dX2_isPresent_21 : decode cX2_isPresent 21 = .ok (.goto 4, 3) := by decide +kernel
theorem dX2_isPresent_24 : decode cX2_isPresent 24 = .ok (.iconst 0, 1) := by decide +kernel
theorem dX2_isPresent_25 : decode cX2_isPresent 25 = .ok (.ireturn, 1) := by decide +kernel
theorem dX2_touches_0 : decode cX2_touches 0 = .ok (.aload_n 0, 1) := by decide +kernel
theorem dX2_touches_1 : decode cX2_touches 1 = .ok (.getfield 9, 3) := by decide +kernel
theorem dX2_touches_4 : decode cX2_touches 4 = .ok (.iload_n 1, 1) := by decide +kernel
theorem dX2_touches_5 : decode cX2_touches 5 = .ok (.if_icmp .eq 11, 3) := by decide +kernel
theorem dX2_touches_8 : decode cX2_touches 8 = .ok (.aload_n 0, 1) := by decide +kernel
theorem dX2_touches_9 : decode cX2_touches 9 = .ok (.getfield 15, 3) := by decide +kernel
theorem dX2_touches_12 : decode cX2_touches 12 = .ok (.iload_n 1, 1) := by decide +kernel
theorem dX2_touches_13 : decode cX2_touches 13 = .ok (.if_icmp .ne 7, 3) := by decide +kernel
theorem dX2_touches_16 : decode cX2_touches 16 = .ok (.iconst 1, 1) := by decide +kernel
theorem dX2_touches_17 : decode cX2_touches 17 = .ok (.goto 4, 3) := by decide +kernel
theorem dX2_touches_20 : decode cX2_touches 20 = .ok (.iconst 0, 1) := by decide +kernel
theorem dX2_touches_21 : decode cX2_touches 21 = .ok (.ireturn, 1) := by decide +kernel
set_option maxRecDepth 20000 in
theorem ggX2_isMetBefore_X2_isShort : GoodIn wsX2_isMetBefore wsX2_isShort := goodIn_r _ [6, 7, 8, 9, 10, 11, 12] (by decide +kernel) (by decide +kernel)
set_option maxRecDepth 20000 in
theorem gX2_isMetBefore_X2_isShort : GoodIn wsX2_isMetBefore (wsV RX2 27 RX2 yX2_isShort wsX2_isShort) := goodIn_app (goodIn_of _ (by decide +kernel)) ggX2_isMetBefore_X2_isShort
theorem dX2_isMetBefore_0 : decode cX2_isMetBefore 0 = .ok (.aload_n 0, 1) := by decide +kernel
theorem dX2_isMetBefore_1 : decode cX2_isMetBefore 1 = .ok (.getfield 18, 3) := by decide +kernel
theorem dX2_isMetBefore_4 : decode cX2_isMetBefore 4 = .ok (.aload_n 1, 1) := by decide +kernel
theorem dX2_isMetBefore_5 : decode cX2_isMetBefore 5 = .ok (.getfield 18, 3) := by decide +kernel
theorem dX2_isMetBefore_8 : decode cX2_isMetBefore 8 = .ok (.if_icmp .lt 28, 3) := by decide +kernel
theorem dX2_isMetBefore_11 : decode cX2_isMetBefore 11 = .ok (.aload_n 0, 1) := by decide +kernel
theorem dX2_isMetBefore_12 : decode cX2_isMetBefore 12 = .ok (.getfield 18, 3) := by decide +kernel
theorem dX2_isMetBefore_15 : decode cX2_isMetBefore 15 = .ok (.aload_n 1, 1) := by decide +kernel
theorem dX2_isMetBefore_16 : decode cX2_isMetBefore 16 = .ok (.getfield 18, 3) := by decide +kernel
theorem dX2_isMetBefore_19 : decode cX2_isMetBefore 19 = .ok (.if_icmp .ne 21, 3) := by decide +kernel
theorem dX2_isMetBefore_22 : decode cX2_isMetBefore 22 = .ok (.aload_n 0, 1) := by decide +kernel
theorem dX2_isMetBefore_23 : decode cX2_isMetBefore 23 = .ok (.invokevirtual 27, 3) := by decide +kernel
theorem dX2_isMetBefore_26 : decode cX2_isMetBefore 26 = .ok (.ifCond .eq 14, 3) := by decide +kernel
theorem dX2_isMetBefore_29 : decode cX2_isMetBefore 29 = .ok (.aload_n 1, 1) := by decide +kernel
theorem dX2_isMetBefore_30 : decode cX2_isMetBefore 30 = .ok (.invokevirtual 27, 3) := by decide +kernel
theorem dX2_isMetBefore_33 : decode cX2_isMetBefore 33 = .ok (.ifCond .ne 7, 3) := by decide +kernel
theorem dX2_isMetBefore_36 : decode cX2_isMetBefore 36 = .ok (.iconst 1, 1) := by decide +kernel
theorem dX2_isMetBefore_37 : decode cX2_isMetBefore 37 = .ok (.goto 4, 3) := by decide +kernel
theorem dX2_isMetBefore_40 : decode cX2_isMetBefore 40 = .ok (.iconst 0, 1) := by decide +kernel
theorem dX2_isMetBefore_41 : decode cX2_isMetBefore 41 = .ok (.ireturn, 1) := by decide +kernel
set_option maxRecDepth 20000 in
theorem ggX2_property_X2_isShort : GoodIn wsX2_property wsX2_isShort := goodIn_r _ [10, 2, 15, 16, 17, 18, 19] (by decide +kernel) (by decide +kernel)
set_option maxRecDepth 20000 in
theorem gX2_property_X2_isShort : GoodIn wsX2_property (wsV RX2 27 RX2 yX2_isShort wsX2_isShort) := goodIn_app (goodIn_of _ (by decide +kernel)) ggX2_property_X2_isShort
set_option maxRecDepth 20000 in
theorem ggX2_property_X2_isPresent : GoodIn wsX2_property wsX2_isPresent := goodIn_r _ [14, 4, 5, 15, 16, 17, 18, 19] (by decide +kernel) (by decide +kernel)
set_option maxRecDepth 20000 in
theorem gX2_property_X2_isPresent : GoodIn wsX2_property (wsV RX2 31 RX2 yX2_isPresent wsX2_isPresent) := goodIn_app (goodIn_of _ (by decide +kernel)) ggX2_property_X2_isPresent
theorem dX2_property_0 : decode cX2_property 0 = .ok (.iload_n 1, 1) := by decide +kernel
theorem dX2_property_1 : decode cX2_property 1 = .ok (.tableswitch 77 0 5 #[39, 52, 57, 62, 67, 72], 39) := by decide +kernel
theorem dX2_property_40 : decode cX2_property 40 = .ok (.aload_n 0, 1) := by decide +kernel
theorem dX2_property_41 : decode cX2_property 41 = .ok (.invokevirtual 27, 3) := by decide +kernel
theorem dX2_property_44 : decode cX2_property 44 = .ok (.ifCond .eq 7, 3) := by decide +kernel
theorem dX2_property_47 : decode cX2_property 47 = .ok (.iconst 1, 1) := by decide +kernel
theorem dX2_property_48 : decode cX2_property 48 = .ok (.goto 4, 3) := by decide +kernel
theorem dX2_property_51 : decode cX2_property 51 = .ok (.iconst 0, 1) := by decide +kernel
theorem dX2_property_52 : decode cX2_property 52 = .ok (.ireturn, 1) := by decide +kernel
theorem dX2_property_53 : decode cX2_property 53 = .ok (.aload_n 0, 1) := by decide +kernel
theorem dX2_property_54 : decode cX2_property 54 = .ok (.getfield 9, 3) := by decide +kernel
theorem dX2_property_57 : decode cX2_property 57 = .ok (.ireturn, 1) := by decide +kernel
theorem dX2_property_58 : decode cX2_property 58 = .ok (.aload_n 0, 1) := by decide +kernel
theorem dX2_property_59 : decode cX2_property 59 = .ok (.getfield 15, 3) := by decide +kernel
theorem dX2_property_62 : decode cX2_property 62 = .ok (.ireturn, 1) := by decide +kernel
theorem dX2_property_63 : decode cX2_property 63 = .ok (.aload_n 0, 1) := by decide +kernel
theorem dX2_property_64 : decode cX2_property 64 = .ok (.getfield 18, 3) := by decide +kernel
theorem dX2_property_67 : decode cX2_property 67 = .ok (.ireturn, 1) := by decide +kernel
theorem dX2_property_68 : decode cX2_property 68 = .ok (.aload_n 0, 1) := by decide +kernel
theorem dX2_property_69 : decode cX2_property 69 = .ok (.getfield 21, 3) := by decide +kernel
theorem dX2_property_72 : decode cX2_property 72 = .ok (.ireturn, 1) := by decide +kernel
theorem dX2_property_73 : decode cX2_property 73 = .ok (.aload_n 0, 1) := by decide +kernel
theorem dX2_property_74 : decode cX2_property 74 = .ok (.getfield 24, 3) := by decide +kernel
theorem dX2_property_77 : decode cX2_property 77 = .ok (.ireturn, 1) := by decide +kernel
theorem dX2_property_78 : decode cX2_property 78 = .ok (.aload_n 0, 1) := by decide +kernel
theorem dX2_property_79 : decode cX2_property 79 = .ok (.iload_n 2, 1) := by decide +kernel
theorem dX2_property_80 : decode cX2_property 80 = .ok (.invokevirtual 31, 3) := by decide +kernel
theorem dX2_property_83 : decode cX2_property 83 = .ok (.ifCond .eq 7, 3) := by decide +kernel
theorem dX2_property_86 : decode cX2_property 86 = .ok (.iconst 1, 1) := by decide +kernel
theorem dX2_property_87 : decode cX2_property 87 = .ok (.goto 4, 3) := by decide +kernel
theorem dX2_property_90 : decode cX2_property 90 = .ok (.iconst 0, 1) := by decide +kernel
theorem dX2_property_91 : decode cX2_property 91 = .ok (.ireturn, 1) := by decide +kernel
theorem dX3_init_0 : decode cX3_init 0 = .ok (.aload_n 0, 1) := by decide +kernel
theorem dX3_init_1 : decode cX3_init 1 = .ok (.invokespecial 3, 3) := by decide +kernel
theorem dX3_init_4 : decode cX3_init 4 = .ok (.aload_n 0, 1) := by decide +kernel
theorem dX3_init_5 : decode cX3_init 5 = .ok (.iload_n 1, 1) := by decide +kernel
theorem dX3_init_6 : decode cX3_init 6 = .ok (.iconst 0, 1) := by decide +kernel
theorem dX3_init_7 : decode cX3_init 7 = .ok (.invokestatic 9, 3) := by decide +kernel
theorem dX3_init_10 : decode cX3_init 10 = .ok (.newarray .int, 2) := by decide +kernel
theorem dX3_init_12 : decode cX3_init 12 = .ok (.putfield 15, 3) := by decide +kernel
theorem dX3_init_15 : decode cX3_init 15 = .ok (.return_, 1) := by decide +kernel
theorem dX3_separate_0 : decode cX3_separate 0 = .ok (.iconst 0, 1) := by decide +kernel
theorem dX3_separate_1 : decode cX3_separate 1 = .ok (.istore_n 1, 1) := by decide +kernel
theorem dX3_separate_2 : decode cX3_separate 2 = .ok (.iload_n 1, 1) := by decide +kernel
theorem dX3_separate_3 : decode cX3_separate 3 = .ok (.aload_n 0, 1) := by decide +kernel
theorem dX3_separate_4 : decode cX3_separate 4 = .ok (.getfield 15, 3) := by decide +kernel
theorem dX3_separate_7 : decode cX3_separate 7 = .ok (.arraylength, 1) := by decide +kernel
theorem dX3_separate_8 : decode cX3_separate 8 = .ok (.if_icmp .ge 16, 3) := by decide +kernel
theorem dX3_separate_11 : decode cX3_separate 11 = .ok (.aload_n 0, 1) := by decide +kernel
theorem dX3_separate_12 : decode cX3_separate 12 = .ok (.getfield 15, 3) := by decide +kernel
theorem dX3_separate_15 : decode cX3_separate 15 = .ok (.iload_n 1, 1) := by decide +kernel
theorem dX3_separate_16 : decode cX3_separate 16 = .ok (.iload_n 1, 1) := by decide +kernel
theorem dX3_separate_17 : decode cX3_separate 17 = .ok (.iastore, 1) := by decide +kernel
theorem dX3_separate_18 : decode cX3_separate 18 = .ok (.iinc 1 1, 3) := by decide +kernel
theorem dX3_separate_21 : decode cX3_separate 21 = .ok (.goto (-19), 3) := by decide +kernel
theorem dX3_separate_24 : decode cX3_separate 24 = .ok (.return_, 1) := by decide +kernel
theorem dX3_groupOf_0 : decode cX3_groupOf 0 = .ok (.iload_n 1, 1) := by decide +kernel
theorem dX3_groupOf_1 : decode cX3_groupOf 1 = .ok (.ifCond .lt 21, 3) := by decide +kernel
theorem dX3_groupOf_4 : decode cX3_groupOf 4 = .ok (.iload_n 1, 1) := by decide +kernel
theorem dX3_groupOf_5 : decode cX3_groupOf 5 = .ok (.aload_n 0, 1) := by decide +kernel
theorem dX3_groupOf_6 : decode cX3_groupOf 6 = .ok (.getfield 15, 3) := by decide +kernel
theorem dX3_groupOf_9 : decode cX3_groupOf 9 = .ok (.arraylength, 1) := by decide +kernel
theorem dX3_groupOf_10 : decode cX3_groupOf 10 = .ok (.if_icmp .ge 12, 3) := by decide +kernel
theorem dX3_groupOf_13 : decode cX3_groupOf 13 = .ok (.aload_n 0, 1) := by decide +kernel
theorem dX3_groupOf_14 : decode cX3_groupOf 14 = .ok (.getfield 15, 3) := by decide +kernel
theorem dX3_groupOf_17 : decode cX3_groupOf 17 = .ok (.iload_n 1, 1) := by decide +kernel
theorem dX3_groupOf_18 : decode cX3_groupOf 18 = .ok (.iaload, 1) := by decide +kernel
theorem dX3_groupOf_19 : decode cX3_groupOf 19 = .ok (.goto 4, 3) := by decide +kernel
theorem dX3_groupOf_22 : decode cX3_groupOf 22 = .ok (.iconst (-1), 1) := by decide +kernel
theorem dX3_groupOf_23 : decode cX3_groupOf 23 = .ok (.ireturn, 1) := by decide +kernel
set_option maxRecDepth 20000 in
theorem ggX3_unite_X3_groupOf : GoodIn wsX3_unite wsX3_groupOf := goodIn_r _ [6, 1, 7] (by decide +kernel) (by decide +kernel)
set_option maxRecDepth 20000 in
theorem gX3_unite_X3_groupOf : GoodIn wsX3_unite (wsV RX3 21 RX3 yX3_groupOf wsX3_groupOf) := goodIn_app (goodIn_of _ (by decide +kernel)) ggX3_unite_X3_groupOf
theorem dX3_unite_0 : decode cX3_unite 0 = .ok (.aload_n 0, 1) := by decide +kernel
theorem dX3_unite_1 : decode cX3_unite 1 = .ok (.iload_n 1, 1) := by decide +kernel
theorem dX3_unite_2 : decode cX3_unite 2 = .ok (.invokevirtual 21, 3) := by decide +kernel
theorem dX3_unite_5 : decode cX3_unite 5 = .ok (.istore_n 3, 1) := by decide +kernel
theorem dX3_unite_6 : decode cX3_unite 6 = .ok (.aload_n 0, 1) := by decide +kernel
theorem dX3_unite_7 : decode cX3_unite 7 = .ok (.iload_n 2, 1) := by decide +kernel
theorem dX3_unite_8 : decode cX3_unite 8 = .ok (.invokevirtual 21, 3) := by decide +kernel
theorem dX3_unite_11 : decode cX3_unite 11 = .ok (.istore 4, 2) := by decide +kernel
theorem dX3_unite_13 : decode cX3_unite 13 = .ok (.iload_n 3, 1) := by decide +kernel
theorem dX3_unite_14 : decode cX3_unite 14 = .ok (.iload 4, 2) := by decide +kernel
theorem dX3_unite_16 : decode cX3_unite 16 = .ok (.if_icmp .ne 5, 3) := by decide +kernel
theorem dX3_unite_19 : decode cX3_unite 19 = .ok (.iconst 0, 1) := by decide +kernel
theorem dX3_unite_20 : decode cX3_unite 20 = .ok (.ireturn, 1) := by decide +kernel
theorem dX3_unite_21 : decode cX3_unite 21 = .ok (.iconst 0, 1) := by decide +kernel
theorem dX3_unite_22 : decode cX3_unite 22 = .ok (.istore 5, 2) := by decide +kernel
theorem dX3_unite_24 : decode cX3_unite 24 = .ok (.iload 5, 2) := by decide +kernel
theorem dX3_unite_26 : decode cX3_unite 26 = .ok (.aload_n 0, 1) := by decide +kernel
theorem dX3_unite_27 : decode cX3_unite 27 = .ok (.getfield 15, 3) := by decide +kernel
theorem dX3_unite_30 : decode cX3_unite 30 = .ok (.arraylength, 1) := by decide +kernel
theorem dX3_unite_31 : decode cX3_unite 31 = .ok (.if_icmp .ge 29, 3) := by decide +kernel
theorem dX3_unite_34 : decode cX3_unite 34 = .ok (.aload_n 0, 1) := by decide +kernel
theorem dX3_unite_35 : decode cX3_unite 35 = .ok (.getfield 15, 3) := by decide +kernel
theorem dX3_unite_38 : decode cX3_unite 38 = .ok (.iload 5, 2) := by decide +kernel
theorem dX3_unite_40 : decode cX3_unite 40 = .ok (.iaload, 1) := by decide +kernel
theorem dX3_unite_41 : decode cX3_unite 41 = .ok (.iload 4, 2) := by decide +kernel
theorem dX3_unite_43 : decode cX3_unite 43 = .ok (.if_icmp .ne 11, 3) := by decide +kernel
theorem dX3_unite_46 : decode cX3_unite 46 = .ok (.aload_n 0, 1) := by decide +kernel
theorem dX3_unite_47 : decode cX3_unite 47 = .ok (.getfield 15, 3) := by decide +kernel
theorem dX3_unite_50 : decode cX3_unite 50 = .ok (.iload 5, 2) := by decide +kernel
theorem dX3_unite_52 : decode cX3_unite 52 = .ok (.iload_n 3, 1) := by decide +kernel
theorem dX3_unite_53 : decode cX3_unite 53 = .ok (.iastore, 1) := by decide +kernel
theorem dX3_unite_54 : decode cX3_unite 54 = .ok (.iinc 5 1, 3) := by decide +kernel
theorem dX3_unite_57 : decode cX3_unite 57 = .ok (.goto (-33), 3) := by decide +kernel
theorem dX3_unite_60 : decode cX3_unite 60 = .ok (.iconst 1, 1) := by decide +kernel
theorem dX3_unite_61 : decode cX3_unite 61 = .ok (.ireturn, 1) := by decide +kernel
theorem dX4_init_0 : decode cX4_init 0 = .ok (.aload_n 0, 1) := by decide +kernel
theorem dX4_init_1 : decode cX4_init 1 = .ok (.invokespecial 3, 3) := by decide +kernel
theorem dX4_init_4 : decode cX4_init 4 = .ok (.aload_n 0, 1) := by decide +kernel
theorem dX4_init_5 : decode cX4_init 5 = .ok (.bipush 8, 2) := by decide +kernel
theorem dX4_init_7 : decode cX4_init 7 = .ok (.newarray .long, 2) := by decide +kernel
theorem dX4_init_9 : decode cX4_init 9 = .ok (.putfield 9, 3) := by decide +kernel
theorem dX4_init_12 : decode cX4_init 12 = .ok (.return_, 1) := by decide +kernel
theorem dX4_forget_0 : decode cX4_forget 0 = .ok (.aload_n 0, 1) := by decide +kernel
theorem dX4_forget_1 : decode cX4_forget 1 = .ok (.iconst 0, 1) := by decide +kernel
theorem dX4_forget_2 : decode cX4_forget 2 = .ok (.putfield 15, 3) := by decide +kernel
theorem dX4_forget_5 : decode cX4_forget 5 = .ok (.iconst 0, 1) := by decide +kernel
theorem dX4_forget_6 : decode cX4_forget 6 = .ok (.istore_n 1, 1) := by decide +kernel
theorem dX4_forget_7 : decode cX4_forget 7 = .ok (.iload_n 1, 1) := by decide +kernel
theorem dX4_forget_8 : decode cX4_forget 8 = .ok (.aload_n 0, 1) := by decide +kernel
theorem dX4_forget_9 : decode cX4_forget 9 = .ok (.getfield 9, 3) := by decide +kernel
theorem dX4_forget_12 : decode cX4_forget 12 = .ok (.arraylength, 1) := by decide +kernel
theorem dX4_forget_13 : decode cX4_forget 13 = .ok (.if_icmp .ge 16, 3) := by decide +kernel
theorem dX4_forget_16 : decode cX4_forget 16 = .ok (.aload_n 0, 1) := by decide +kernel
theorem dX4_forget_17 : decode cX4_forget 17 = .ok (.getfield 9, 3) := by decide +kernel
theorem dX4_forget_20 : decode cX4_forget 20 = .ok (.iload_n 1, 1) := by decide +kernel
theorem dX4_forget_21 : decode cX4_forget 21 = .ok (.lconst 0, 1) := by decide +kernel
theorem dX4_forget_22 : decode cX4_forget 22 = .ok (.lastore, 1) := by decide +kernel
theorem dX4_forget_23 : decode cX4_forget 23 = .ok (.iinc 1 1, 3) := by decide +kernel
theorem dX4_forget_26 : decode cX4_forget 26 = .ok (.goto (-19), 3) := by decide +kernel
theorem dX4_forget_29 : decode cX4_forget 29 = .ok (.return_, 1) := by decide +kernel
theorem dX4_note_0 : decode cX4_note 0 = .ok (.iconst 0, 1) := by decide +kernel
theorem dX4_note_1 : decode cX4_note 1 = .ok (.istore_n 2, 1) := by decide +kernel
theorem dX4_note_2 : decode cX4_note 2 = .ok (.iload_n 2, 1) := by decide +kernel
theorem dX4_note_3 : decode cX4_note 3 = .ok (.aload_n 0, 1) := by decide +kernel
theorem dX4_note_4 : decode cX4_note 4 = .ok (.getfield 9, 3) := by decide +kernel
theorem dX4_note_7 : decode cX4_note 7 = .ok (.arraylength, 1) := by decide +kernel
theorem dX4_note_8 : decode cX4_note 8 = .ok (.if_icmp .ge 30, 3) := by decide +kernel
theorem dX4_note_11 : decode cX4_note 11 = .ok (.aload_n 0, 1) := by decide +kernel
theorem dX4_note_12 : decode cX4_note 12 = .ok (.getfield 9, 3) := by decide +kernel
theorem dX4_note_15 : decode cX4_note 15 = .ok (.iload_n 2, 1) := by decide +kernel
theorem dX4_note_16 : decode cX4_note 16 = .ok (.aload_n 0, 1) := by decide +kernel
theorem dX4_note_17 : decode cX4_note 17 = .ok (.getfield 9, 3) := by decide +kernel
theorem dX4_note_20 : decode cX4_note 20 = .ok (.iload_n 2, 1) := by decide +kernel
theorem dX4_note_21 : decode cX4_note 21 = .ok (.laload, 1) := by decide +kernel
theorem dX4_note_22 : decode cX4_note 22 = .ok (.iconst 1, 1) := by decide +kernel
theorem dX4_note_23 : decode cX4_note 23 = .ok (.lshl, 1) := by decide +kernel
theorem dX4_note_24 : decode cX4_note 24 = .ok (.iload_n 1, 1) := by decide +kernel
theorem dX4_note_25 : decode cX4_note 25 = .ok (.iload_n 2, 1) := by decide +kernel
theorem dX4_note_26 : decode cX4_note 26 = .ok (.ishr, 1) := by decide +kernel
theorem dX4_note_27 : decode cX4_note 27 = .ok (.iconst 1, 1) := by decide +kernel
theorem dX4_note_28 : decode cX4_note 28 = .ok (.iand, 1) := by decide +kernel
theorem dX4_note_29 : decode cX4_note 29 = .ok (.i2l, 1) := by decide +kernel
theorem dX4_note_30 : decode cX4_note 30 = .ok (.lor, 1) := by decide +kernel
theorem dX4_note_31 : decode cX4_note 31 = .ok (.lastore, 1) := by decide +kernel
theorem dX4_note_32 : decode cX4_note 32 = .ok (.iinc 2 1, 3) := by decide +kernel
theorem dX4_note_35 : decode cX4_note 35 = .ok (.goto (-33), 3) := by decide +kernel
theorem dX4_note_38 : decode cX4_note 38 = .ok (.aload_n 0, 1) := by decide +kernel
theorem dX4_note_39 : decode cX4_note 39 = .ok (.aload_n 0, 1) := by decide +kernel
theorem dX4_note_40 : decode cX4_note 40 = .ok (.getfield 15, 3) := by decide +kernel
theorem dX4_note_43 : decode cX4_note 43 = .ok (.iconst 1, 1) := by decide +kernel
theorem dX4_note_44 : decode cX4_note 44 = .ok (.iadd, 1) := by decide +kernel
theorem dX4_note_45 : decode cX4_note 45 = .ok (.bipush 64, 2) := by decide +kernel
theorem dX4_note_47 : decode cX4_note 47 = .ok (.invokestatic 19, 3) := by decide +kernel
theorem dX4_note_50 : decode cX4_note 50 = .ok (.putfield 15, 3) := by decide +kernel
theorem dX4_note_53 : decode cX4_note 53 = .ok (.return_, 1) := by decide +kernel
set_option maxRecDepth 20000 in
theorem ggX4_numberAbout_X4_timesWrong : GoodIn wsX4_numberAbout wsX4_timesWrong := goodIn_r _ [6, 7, 8, 9, 5, 10, 11, 12, 13, 14, 15, 16, 17, 18, 35, 36] (by decide +kernel) (by decide +kernel)
set_option maxRecDepth 20000 in
theorem gX4_numberAbout_X4_timesWrong : GoodIn wsX4_numberAbout (wsV RX4 25 RX4 yX4_timesWrong wsX4_timesWrong) := goodIn_app (goodIn_of _ (by decide +kernel)) ggX4_numberAbout_X4_timesWrong
set_option maxRecDepth 20000 in
theorem ggX4_numberAbout_X4_longestWrongRow : GoodIn wsX4_numberAbout wsX4_longestWrongRow := goodIn_r _ [22, 7, 8, 9, 5, 10, 11, 35, 36] (by decide +kernel) (by decide +kernel)
set_option maxRecDepth 20000 in
theorem gX4_numberAbout_X4_longestWrongRow : GoodIn wsX4_numberAbout (wsV RX4 29 RX4 yX4_longestWrongRow wsX4_longestWrongRow) := goodIn_app (goodIn_of _ (by decide +kernel)) ggX4_numberAbout_X4_longestWrongRow
set_option maxRecDepth 20000 in
theorem ggX4_numberAbout_X4_changes : GoodIn wsX4_numberAbout wsX4_changes := goodIn_r _ [26, 1, 27, 28, 29, 5, 30, 7, 8, 9, 10, 11, 12, 13, 14, 15, 16, 17, 18, 35, 36] (by decide +kernel) (by decide +kernel)
set_option maxRecDepth 20000 in
theorem gX4_numberAbout_X4_changes : GoodIn wsX4_numberAbout (wsV RX4 32 RX4 yX4_changes wsX4_changes) := goodIn_app (goodIn_of _ (by decide +kernel)) ggX4_numberAbout_X4_changes
set_option maxRecDepth 20000 in
theorem ggX4_numberAbout_X4_leastPeriod : GoodIn wsX4_numberAbout wsX4_leastPeriod := goodIn_r _ [34, 1, 27, 28, 29, 5, 30, 7, 8, 9, 10, 11, 35, 36] (by decide +kernel) (by decide +kernel)
set_option maxRecDepth 20000 in
theorem gX4_numberAbout_X4_leastPeriod : GoodIn wsX4_numberAbout (wsV RX4 35 RX4 yX4_leastPeriod wsX4_leastPeriod) := goodIn_app (goodIn_of _ (by decide +kernel)) ggX4_numberAbout_X4_leastPeriod
theorem dX4_numberAbout_0 : decode cX4_numberAbout 0 = .ok (.iload_n 2, 1) := by decide +kernel
theorem dX4_numberAbout_1 : decode cX4_numberAbout 1 = .ok (.tableswitch 54 0 3 #[31, 36, 42, 48], 31) := by decide +kernel
theorem dX4_numberAbout_32 : decode cX4_numberAbout 32 = .ok (.aload_n 0, 1) := by decide +kernel
theorem dX4_numberAbout_33 : decode cX4_numberAbout 33 = .ok (.getfield 15, 3) := by decide +kernel
theorem dX4_numberAbout_36 : decode cX4_numberAbout 36 = .ok (.ireturn, 1) := by decide +kernel
theorem dX4_numberAbout_37 : decode cX4_numberAbout 37 = .ok (.aload_n 0, 1) := by decide +kernel
theorem dX4_numberAbout_38 : decode cX4_numberAbout 38 = .ok (.iload_n 1, 1) := by decide +kernel
theorem dX4_numberAbout_39 : decode cX4_numberAbout 39 = .ok (.invokevirtual 25, 3) := by decide +kernel
theorem dX4_numberAbout_42 : decode cX4_numberAbout 42 = .ok (.ireturn, 1) := by decide +kernel
theorem dX4_numberAbout_43 : decode cX4_numberAbout 43 = .ok (.aload_n 0, 1) := by decide +kernel
theorem dX4_numberAbout_44 : decode cX4_numberAbout 44 = .ok (.iload_n 1, 1) := by decide +kernel
theorem dX4_numberAbout_45 : decode cX4_numberAbout 45 = .ok (.invokevirtual 29, 3) := by decide +kernel
theorem dX4_numberAbout_48 : decode cX4_numberAbout 48 = .ok (.ireturn, 1) := by decide +kernel
theorem dX4_numberAbout_49 : decode cX4_numberAbout 49 = .ok (.aload_n 0, 1) := by decide +kernel
theorem dX4_numberAbout_50 : decode cX4_numberAbout 50 = .ok (.iload_n 1, 1) := by decide +kernel
theorem dX4_numberAbout_51 : decode cX4_numberAbout 51 = .ok (.invokevirtual 32, 3) := by decide +kernel
theorem dX4_numberAbout_54 : decode cX4_numberAbout 54 = .ok (.ireturn, 1) := by decide +kernel
theorem dX4_numberAbout_55 : decode cX4_numberAbout 55 = .ok (.aload_n 0, 1) := by decide +kernel
theorem dX4_numberAbout_56 : decode cX4_numberAbout 56 = .ok (.iload_n 1, 1) := by decide +kernel
theorem dX4_numberAbout_57 : decode cX4_numberAbout 57 = .ok (.invokevirtual 35, 3) := by decide +kernel
theorem dX4_numberAbout_60 : decode cX4_numberAbout 60 = .ok (.ireturn, 1) := by decide +kernel
