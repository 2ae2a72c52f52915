theorem dX8_splits_127 : decode cX8_splits 127 = .ok (.ior, 1) := by decide +kernel
theorem dX8_splits_128 : decode cX8_splits 128 = .ok (.istore_n 3, 1) := by decide +kernel
theorem dX8_splits_129 : decode cX8_splits 129 = .ok (.iinc 4 1, 3) := by decide +kernel
theorem dX8_splits_132 : decode cX8_splits 132 = .ok (.goto (-56), 3) := by decide +kernel
theorem dX8_splits_135 : decode cX8_splits 135 = .ok (.iload_n 1, 1) := by decide +kernel
theorem dX8_splits_136 : decode cX8_splits 136 = .ok (.iload_n 3, 1) := by decide +kernel
theorem dX8_splits_137 : decode cX8_splits 137 = .ok (.iconst 1, 1) := by decide +kernel
theorem dX8_splits_138 : decode cX8_splits 138 = .ok (.iload_n 2, 1) := by decide +kernel
theorem dX8_splits_139 : decode cX8_splits 139 = .ok (.ishl, 1) := by decide +kernel
theorem dX8_splits_140 : decode cX8_splits 140 = .ok (.iconst 1, 1) := by decide +kernel
theorem dX8_splits_141 : decode cX8_splits 141 = .ok (.isub, 1) := by decide +kernel
theorem dX8_splits_142 : decode cX8_splits 142 = .ok (.iand, 1) := by decide +kernel
theorem dX8_splits_143 : decode cX8_splits 143 = .ok (.ifCond .eq 7, 3) := by decide +kernel
theorem dX8_splits_146 : decode cX8_splits 146 = .ok (.iconst 1, 1) := by decide +kernel
theorem dX8_splits_147 : decode cX8_splits 147 = .ok (.goto 4, 3) := by decide +kernel
theorem dX8_splits_150 : decode cX8_splits 150 = .ok (.iconst 0, 1) := by decide +kernel
theorem dX8_splits_151 : decode cX8_splits 151 = .ok (.iadd, 1) := by decide +kernel
theorem dX8_splits_152 : decode cX8_splits 152 = .ok (.istore_n 1, 1) := by decide +kernel
theorem dX8_splits_153 : decode cX8_splits 153 = .ok (.iinc 2 1, 3) := by decide +kernel
theorem dX8_splits_156 : decode cX8_splits 156 = .ok (.goto (-152), 3) := by decide +kernel
theorem dX8_splits_159 : decode cX8_splits 159 = .ok (.iload_n 1, 1) := by decide +kernel
theorem dX8_splits_160 : decode cX8_splits 160 = .ok (.ireturn, 1) := by decide +kernel
set_option maxRecDepth 20000 in
theorem ggX8_explanation_X8_findBest : GoodIn wsX8_explanation wsX8_findBest := goodIn_r _ [7, 8, 1, 2, 9, 10, 11, 12, 13, 6, 14, 15, 16, 17, 18, 19, 20, 21, 22, 23, 24, 25, 26, 27, 28, 29, 30, 31, 32, 33, 34, 35, 36, 37, 38, 39, 40, 41, 42, 43, 44, 45, 46, 47, 48, 49, 50, 51, 52, 53, 73, 74, 75, 76, 77, 78, 79, 80, 81, 82, 83, 84, 85, 86, 87, 88, 89, 90, 91, 92, 93, 94, 95, 96, 97, 98, 99, 100, 101] (by decide +kernel) (by decide +kernel)
set_option maxRecDepth 20000 in
theorem gX8_explanation_X8_findBest : GoodIn wsX8_explanation (wsV RX8 243 RX8 yX8_findBest wsX8_findBest) := goodIn_app (goodIn_of _ (by decide +kernel)) ggX8_explanation_X8_findBest
set_option maxRecDepth 20000 in
theorem ggX8_explanation_X8_netShorts : GoodIn wsX8_explanation wsX8_netShorts := goodIn_r _ [57, 15, 58, 59, 60, 6, 61, 62, 63, 64, 73, 74, 75, 76, 77, 78, 79, 80, 81, 82, 83, 84, 85, 86, 87, 88, 89, 90, 91, 92, 93, 94, 95, 96, 97, 98, 99, 100, 101] (by decide +kernel) (by decide +kernel)
set_option maxRecDepth 20000 in
theorem gX8_explanation_X8_netShorts : GoodIn wsX8_explanation (wsV RX8 246 RX8 yX8_netShorts wsX8_netShorts) := goodIn_app (goodIn_of _ (by decide +kernel)) ggX8_explanation_X8_netShorts
set_option maxRecDepth 20000 in
theorem ggX8_explanation_X8_splits : GoodIn wsX8_explanation wsX8_splits := goodIn_r _ [68, 69, 70, 71, 6, 72, 16, 73, 74, 75, 76, 77, 78, 79, 80, 81, 82, 83, 84, 85, 86, 87, 88, 89, 90, 91, 92, 93, 94, 95, 96, 97, 98, 99, 100, 101] (by decide +kernel) (by decide +kernel)
set_option maxRecDepth 20000 in
theorem gX8_explanation_X8_splits : GoodIn wsX8_explanation (wsV RX8 249 RX8 yX8_splits wsX8_splits) := goodIn_app (goodIn_of _ (by decide +kernel)) ggX8_explanation_X8_splits
theorem dX8_explanation_0 : decode cX8_explanation 0 = .ok (.aload_n 0, 1) := by decide +kernel
theorem dX8_explanation_1 : decode cX8_explanation 1 = .ok (.invokevirtual 243, 3) := by decide +kernel
theorem dX8_explanation_4 : decode cX8_explanation 4 = .ok (.iload_n 1, 1) := by decide +kernel
theorem dX8_explanation_5 : decode cX8_explanation 5 = .ok (.tableswitch 51 0 3 #[31, 36, 41, 46], 31) := by decide +kernel
theorem dX8_explanation_36 : decode cX8_explanation 36 = .ok (.aload_n 0, 1) := by decide +kernel
theorem dX8_explanation_37 : decode cX8_explanation 37 = .ok (.getfield 234, 3) := by decide +kernel
theorem dX8_explanation_40 : decode cX8_explanation 40 = .ok (.ireturn, 1) := by decide +kernel
theorem dX8_explanation_41 : decode cX8_explanation 41 = .ok (.aload_n 0, 1) := by decide +kernel
theorem dX8_explanation_42 : decode cX8_explanation 42 = .ok (.invokevirtual 246, 3) := by decide +kernel
theorem dX8_explanation_45 : decode cX8_explanation 45 = .ok (.ireturn, 1) := by decide +kernel
theorem dX8_explanation_46 : decode cX8_explanation 46 = .ok (.aload_n 0, 1) := by decide +kernel
theorem dX8_explanation_47 : decode cX8_explanation 47 = .ok (.getfield 237, 3) := by decide +kernel
theorem dX8_explanation_50 : decode cX8_explanation 50 = .ok (.ireturn, 1) := by decide +kernel
theorem dX8_explanation_51 : decode cX8_explanation 51 = .ok (.aload_n 0, 1) := by decide +kernel
theorem dX8_explanation_52 : decode cX8_explanation 52 = .ok (.invokevirtual 249, 3) := by decide +kernel
theorem dX8_explanation_55 : decode cX8_explanation 55 = .ok (.ireturn, 1) := by decide +kernel
theorem dX8_explanation_56 : decode cX8_explanation 56 = .ok (.aload_n 0, 1) := by decide +kernel
theorem dX8_explanation_57 : decode cX8_explanation 57 = .ok (.getfield 234, 3) := by decide +kernel
theorem dX8_explanation_60 : decode cX8_explanation 60 = .ok (.aload_n 0, 1) := by decide +kernel
theorem dX8_explanation_61 : decode cX8_explanation 61 = .ok (.invokevirtual 246, 3) := by decide +kernel
theorem dX8_explanation_64 : decode cX8_explanation 64 = .ok (.iadd, 1) := by decide +kernel
theorem dX8_explanation_65 : decode cX8_explanation 65 = .ok (.aload_n 0, 1) := by decide +kernel
theorem dX8_explanation_66 : decode cX8_explanation 66 = .ok (.getfield 237, 3) := by decide +kernel
theorem dX8_explanation_69 : decode cX8_explanation 69 = .ok (.iadd, 1) := by decide +kernel
theorem dX8_explanation_70 : decode cX8_explanation 70 = .ok (.aload_n 0, 1) := by decide +kernel
theorem dX8_explanation_71 : decode cX8_explanation 71 = .ok (.invokevirtual 249, 3) := by decide +kernel
theorem dX8_explanation_74 : decode cX8_explanation 74 = .ok (.iadd, 1) := by decide +kernel
theorem dX8_explanation_75 : decode cX8_explanation 75 = .ok (.ireturn, 1) := by decide +kernel
set_option maxRecDepth 20000 in
theorem ggX8_explain_X8_within : GoodIn wsX8_explain wsX8_within := goodIn_r _ [5] (by decide +kernel) (by decide +kernel)
set_option maxRecDepth 20000 in
theorem gX8_explain_X8_within : GoodIn wsX8_explain (va_wsS RX8 48 yX8_within wsX8_within) := goodIn_app (goodIn_of _ (by decide +kernel)) ggX8_explain_X8_within
set_option maxRecDepth 20000 in
theorem ggX8_explain_X8_explanation : GoodIn wsX8_explain wsX8_explanation := goodIn_r _ [9, 10, 11, 12, 13, 14, 4, 15, 16, 17, 18, 19, 20, 21, 22, 23, 24, 25, 26, 27, 28, 29, 30, 31, 32, 33, 34, 35, 36, 37, 38, 39, 40, 41, 42, 43, 44, 45, 46, 47, 48, 49, 50, 51, 52, 53, 54, 55, 56, 57, 58, 59, 60, 61, 62, 63, 64, 65, 66, 67, 68, 69, 70, 71, 72, 73, 74, 75, 76, 77, 78, 79, 80, 81, 82, 83, 84, 85, 86, 87, 88, 89, 90, 91, 92, 93, 94, 95, 96, 97, 98, 99, 100, 101, 102, 103, 104, 105, 106, 107, 108, 109] (by decide +kernel) (by decide +kernel)
set_option maxRecDepth 20000 in
theorem gX8_explain_X8_explanation : GoodIn wsX8_explain (wsV RX8 252 RX8 yX8_explanation wsX8_explanation) := goodIn_app (goodIn_of _ (by decide +kernel)) ggX8_explain_X8_explanation
theorem dX8_explain_0 : decode cX8_explain 0 = .ok (.aload_n 0, 1) := by decide +kernel
theorem dX8_explain_1 : decode cX8_explain 1 = .ok (.iload_n 1, 1) := by decide +kernel
theorem dX8_explain_2 : decode cX8_explain 2 = .ok (.iconst 0, 1) := by decide +kernel
theorem dX8_explain_3 : decode cX8_explain 3 = .ok (.iconst 4, 1) := by decide +kernel
theorem dX8_explain_4 : decode cX8_explain 4 = .ok (.invokestatic 48, 3) := by decide +kernel
theorem dX8_explain_7 : decode cX8_explain 7 = .ok (.ifCond .eq 7, 3) := by decide +kernel
theorem dX8_explain_10 : decode cX8_explain 10 = .ok (.iconst 0, 1) := by decide +kernel
theorem dX8_explain_11 : decode cX8_explain 11 = .ok (.goto 4, 3) := by decide +kernel
theorem dX8_explain_14 : decode cX8_explain 14 = .ok (.iconst 1, 1) := by decide +kernel
theorem dX8_explain_15 : decode cX8_explain 15 = .ok (.putfield 44, 3) := by decide +kernel
theorem dX8_explain_18 : decode cX8_explain 18 = .ok (.aload_n 0, 1) := by decide +kernel
theorem dX8_explain_19 : decode cX8_explain 19 = .ok (.getfield 44, 3) := by decide +kernel
theorem dX8_explain_22 : decode cX8_explain 22 = .ok (.ifCond .le 7, 3) := by decide +kernel
theorem dX8_explain_25 : decode cX8_explain 25 = .ok (.iconst 0, 1) := by decide +kernel
theorem dX8_explain_26 : decode cX8_explain 26 = .ok (.goto 8, 3) := by decide +kernel
theorem dX8_explain_29 : decode cX8_explain 29 = .ok (.aload_n 0, 1) := by decide +kernel
theorem dX8_explain_30 : decode cX8_explain 30 = .ok (.iload_n 1, 1) := by decide +kernel
theorem dX8_explain_31 : decode cX8_explain 31 = .ok (.invokevirtual 252, 3) := by decide +kernel
theorem dX8_explain_34 : decode cX8_explain 34 = .ok (.ireturn, 1) := by decide +kernel
set_option maxRecDepth 20000 in
theorem ggX8_explained_X8_isWire : GoodIn wsX8_explained wsX8_isWire := goodIn_r _ [6, 7, 8, 5, 9] (by decide +kernel) (by decide +kernel)
set_option maxRecDepth 20000 in
theorem gX8_explained_X8_isWire : GoodIn wsX8_explained (va_wsS RX8 106 yX8_isWire wsX8_isWire) := goodIn_app (goodIn_of _ (by decide +kernel)) ggX8_explained_X8_isWire
set_option maxRecDepth 20000 in
theorem ggX8_explained_X8_findBest : GoodIn wsX8_explained wsX8_findBest := goodIn_r _ [13, 14, 15, 16, 17, 18, 19, 20, 21, 5, 22, 23, 24, 25, 26, 27, 28, 29, 30, 31, 32, 33, 34, 35, 36, 37, 38, 39, 40, 41, 42, 43, 44, 45, 46, 47, 48, 49, 50, 51, 52, 2, 53, 54, 55, 56, 57, 58, 59, 60, 61, 62, 63, 64, 65, 66, 67, 68, 69, 70, 71, 72, 73, 74, 75, 76, 77, 78, 79, 80, 81, 82, 83, 84, 85, 86, 87, 88, 89] (by decide +kernel) (by decide +kernel)
set_option maxRecDepth 20000 in
theorem gX8_explained_X8_findBest : GoodIn wsX8_explained (wsV RX8 243 RX8 yX8_findBest wsX8_findBest) := goodIn_app (goodIn_of _ (by decide +kernel)) ggX8_explained_X8_findBest
theorem dX8_explained_0 : decode cX8_explained 0 = .ok (.aload_n 0, 1) := by decide +kernel
theorem dX8_explained_1 : decode cX8_explained 1 = .ok (.iload_n 1, 1) := by decide +kernel
theorem dX8_explained_2 : decode cX8_explained 2 = .ok (.invokestatic 106, 3) := by decide +kernel
theorem dX8_explained_5 : decode cX8_explained 5 = .ok (.ifCond .eq 7, 3) := by decide +kernel
theorem dX8_explained_8 : decode cX8_explained 8 = .ok (.iconst 0, 1) := by decide +kernel
theorem dX8_explained_9 : decode cX8_explained 9 = .ok (.goto 4, 3) := by decide +kernel
theorem dX8_explained_12 : decode cX8_explained 12 = .ok (.iconst 1, 1) := by decide +kernel
theorem dX8_explained_13 : decode cX8_explained 13 = .ok (.putfield 44, 3) := by decide +kernel
theorem dX8_explained_16 : decode cX8_explained 16 = .ok (.aload_n 0, 1) := by decide +kernel
theorem dX8_explained_17 : decode cX8_explained 17 = .ok (.getfield 44, 3) := by decide +kernel
theorem dX8_explained_20 : decode cX8_explained 20 = .ok (.ifCond .le 5, 3) := by decide +kernel
theorem dX8_explained_23 : decode cX8_explained 23 = .ok (.iconst 0, 1) := by decide +kernel
theorem dX8_explained_24 : decode cX8_explained 24 = .ok (.ireturn, 1) := by decide +kernel
theorem dX8_explained_25 : decode cX8_explained 25 = .ok (.aload_n 0, 1) := by decide +kernel
theorem dX8_explained_26 : decode cX8_explained 26 = .ok (.invokevirtual 243, 3) := by decide +kernel
theorem dX8_explained_29 : decode cX8_explained 29 = .ok (.aload_n 0, 1) := by decide +kernel
theorem dX8_explained_30 : decode cX8_explained 30 = .ok (.getfield 31, 3) := by decide +kernel
theorem dX8_explained_33 : decode cX8_explained 33 = .ok (.iload_n 1, 1) := by decide +kernel
theorem dX8_explained_34 : decode cX8_explained 34 = .ok (.iaload, 1) := by decide +kernel
theorem dX8_explained_35 : decode cX8_explained 35 = .ok (.ireturn, 1) := by decide +kernel
set_option maxRecDepth 20000 in
theorem ggX8_presentFaults_X8_isPresent : GoodIn wsX8_presentFaults wsX8_isPresent := goodIn_r _ [7, 8, 9, 10, 6, 11, 12, 13, 14, 15, 16, 17, 18, 19, 20, 21, 22, 23, 24, 25, 26, 27, 28, 29, 30, 31, 32, 33, 34, 35, 36, 37, 38, 39, 40, 41] (by decide +kernel) (by decide +kernel)
set_option maxRecDepth 20000 in
theorem gX8_presentFaults_X8_isPresent : GoodIn wsX8_presentFaults (wsV RX8 74 RX8 yX8_isPresent wsX8_isPresent) := goodIn_app (goodIn_of _ (by decide +kernel)) ggX8_presentFaults_X8_isPresent
theorem dX8_presentFaults_0 : decode cX8_presentFaults 0 = .ok (.iconst 0, 1) := by decide +kernel
theorem dX8_presentFaults_1 : decode cX8_presentFaults 1 = .ok (.istore_n 1, 1) := by decide +kernel
theorem dX8_presentFaults_2 : decode cX8_presentFaults 2 = .ok (.iconst 0, 1) := by decide +kernel
theorem dX8_presentFaults_3 : decode cX8_presentFaults 3 = .ok (.istore_n 2, 1) := by decide +kernel
theorem dX8_presentFaults_4 : decode cX8_presentFaults 4 = .ok (.iload_n 2, 1) := by decide +kernel
theorem dX8_presentFaults_5 : decode cX8_presentFaults 5 = .ok (.aload_n 0, 1) := by decide +kernel
theorem dX8_presentFaults_6 : decode cX8_presentFaults 6 = .ok (.getfield 64, 3) := by decide +kernel
theorem dX8_presentFaults_9 : decode cX8_presentFaults 9 = .ok (.if_icmp .ge 29, 3) := by decide +kernel
theorem dX8_presentFaults_12 : decode cX8_presentFaults 12 = .ok (.iload_n 1, 1) := by decide +kernel
theorem dX8_presentFaults_13 : decode cX8_presentFaults 13 = .ok (.aload_n 0, 1) := by decide +kernel
theorem dX8_presentFaults_14 : decode cX8_presentFaults 14 = .ok (.iload_n 2, 1) := by decide +kernel
theorem dX8_presentFaults_15 : decode cX8_presentFaults 15 = .ok (.aload_n 0, 1) := by decide +kernel
theorem dX8_presentFaults_16 : decode cX8_presentFaults 16 = .ok (.getfield 61, 3) := by decide +kernel
theorem dX8_presentFaults_19 : decode cX8_presentFaults 19 = .ok (.invokevirtual 74, 3) := by decide +kernel
theorem dX8_presentFaults_22 : decode cX8_presentFaults 22 = .ok (.ifCond .eq 7, 3) := by decide +kernel
theorem dX8_presentFaults_25 : decode cX8_presentFaults 25 = .ok (.iconst 1, 1) := by decide +kernel
theorem dX8_presentFaults_26 : decode cX8_presentFaults 26 = .ok (.goto 4, 3) := by decide +kernel
theorem dX8_presentFaults_29 : decode cX8_presentFaults 29 = .ok (.iconst 0, 1) := by decide +kernel
theorem dX8_presentFaults_30 : decode cX8_presentFaults 30 = .ok (.iadd, 1) := by decide +kernel
theorem dX8_presentFaults_31 : decode cX8_presentFaults 31 = .ok (.istore_n 1, 1) := by decide +kernel
theorem dX8_presentFaults_32 : decode cX8_presentFaults 32 = .ok (.iinc 2 1, 3) := by decide +kernel
theorem dX8_presentFaults_35 : decode cX8_presentFaults 35 = .ok (.goto (-31), 3) := by decide +kernel
theorem dX8_presentFaults_38 : decode cX8_presentFaults 38 = .ok (.iload_n 1, 1) := by decide +kernel
theorem dX8_presentFaults_39 : decode cX8_presentFaults 39 = .ok (.ireturn, 1) := by decide +kernel
set_option maxRecDepth 20000 in
theorem ggX8_allNets_X8_layNets : GoodIn wsX8_allNets wsX8_layNets := goodIn_r _ [7, 2, 8, 9, 10, 11, 12, 6, 13, 14, 15, 16, 17, 18, 19, 20, 21, 22, 23, 24, 25, 26, 27, 28, 29, 30, 31, 32, 33, 34, 35, 36, 37, 38, 39, 40, 41, 42, 43, 44, 45, 46, 47, 48, 49, 50, 51, 52, 53, 54, 55, 56, 57, 58, 59, 60, 61] (by decide +kernel) (by decide +kernel)
set_option maxRecDepth 20000 in
theorem gX8_allNets_X8_layNets : GoodIn wsX8_allNets (wsV RX8 96 RX8 yX8_layNets wsX8_layNets) := goodIn_app (goodIn_of _ (by decide +kernel)) ggX8_allNets_X8_layNets
theorem dX8_allNets_0 : decode cX8_allNets 0 = .ok (.aload_n 0, 1) := by decide +kernel
theorem dX8_allNets_1 : decode cX8_allNets 1 = .ok (.aload_n 0, 1) := by decide +kernel
theorem dX8_allNets_2 : decode cX8_allNets 2 = .ok (.getfield 61, 3) := by decide +kernel
theorem dX8_allNets_5 : decode cX8_allNets 5 = .ok (.invokevirtual 96, 3) := by decide +kernel
theorem dX8_allNets_8 : decode cX8_allNets 8 = .ok (.iconst 0, 1) := by decide +kernel
theorem dX8_allNets_9 : decode cX8_allNets 9 = .ok (.istore_n 1, 1) := by decide +kernel
theorem dX8_allNets_10 : decode cX8_allNets 10 = .ok (.iconst 0, 1) := by decide +kernel
theorem dX8_allNets_11 : decode cX8_allNets 11 = .ok (.istore_n 2, 1) := by decide +kernel
theorem dX8_allNets_12 : decode cX8_allNets 12 = .ok (.iload_n 2, 1) := by decide +kernel
theorem dX8_allNets_13 : decode cX8_allNets 13 = .ok (.bipush 16, 2) := by decide +kernel
theorem dX8_allNets_15 : decode cX8_allNets 15 = .ok (.if_icmp .ge 64, 3) := by decide +kernel
theorem dX8_allNets_18 : decode cX8_allNets 18 = .ok (.iconst 1, 1) := by decide +kernel
theorem dX8_allNets_19 : decode cX8_allNets 19 = .ok (.istore_n 3, 1) := by decide +kernel
theorem dX8_allNets_20 : decode cX8_allNets 20 = .ok (.iconst 0, 1) := by decide +kernel
theorem dX8_allNets_21 : decode cX8_allNets 21 = .ok (.istore 4, 2) := by decide +kernel
theorem dX8_allNets_23 : decode cX8_allNets 23 = .ok (.iload 4, 2) := by decide +kernel
theorem dX8_allNets_25 : decode cX8_allNets 25 = .ok (.iload_n 2, 1) := by decide +kernel
theorem dX8_allNets_26 : decode cX8_allNets 26 = .ok (.if_icmp .ge 35, 3) := by decide +kernel
theorem dX8_allNets_29 : decode cX8_allNets 29 = .ok (.iload_n 3, 1) := by decide +kernel
theorem dX8_allNets_30 : decode cX8_allNets 30 = .ok (.ifCond .eq 23, 3) := by decide +kernel
theorem dX8_allNets_33 : decode cX8_allNets 33 = .ok (.aload_n 0, 1) := by decide +kernel
theorem dX8_allNets_34 : decode cX8_allNets 34 = .ok (.getfield 25, 3) := by decide +kernel
theorem dX8_allNets_37 : decode cX8_allNets 37 = .ok (.iload 4, 2) := by decide +kernel
theorem dX8_allNets_39 : decode cX8_allNets 39 = .ok (.iaload, 1) := by decide +kernel
theorem dX8_allNets_40 : decode cX8_allNets 40 = .ok (.aload_n 0, 1) := by decide +kernel
theorem dX8_allNets_41 : decode cX8_allNets 41 = .ok (.getfield 25, 3) := by decide +kernel
theorem dX8_allNets_44 : decode cX8_allNets 44 = .ok (.iload_n 2, 1) := by decide +kernel
theorem dX8_allNets_45 : decode cX8_allNets 45 = .ok (.iaload, 1) := by decide +kernel
theorem dX8_allNets_46 : decode cX8_allNets 46 = .ok (.if_icmp .eq 7, 3) := by decide +kernel
theorem dX8_allNets_49 : decode cX8_allNets 49 = .ok (.iconst 1, 1) := by decide +kernel
theorem dX8_allNets_50 : decode cX8_allNets 50 = .ok (.goto 4, 3) := by decide +kernel
theorem dX8_allNets_53 : decode cX8_allNets 53 = .ok (.iconst 0, 1) := by decide +kernel
theorem dX8_allNets_54 : decode cX8_allNets 54 = .ok (.istore_n 3, 1) := by decide +kernel
theorem dX8_allNets_55 : decode cX8_allNets 55 = .ok (.iinc 4 1, 3) := by decide +kernel
theorem dX8_allNets_58 : decode cX8_allNets 58 = .ok (.goto (-35), 3) := by decide +kernel
theorem dX8_allNets_61 : decode cX8_allNets 61 = .ok (.iload_n 1, 1) := by decide +kernel
theorem dX8_allNets_62 : decode cX8_allNets 62 = .ok (.iload_n 3, 1) := by decide +kernel
theorem dX8_allNets_63 : decode cX8_allNets 63 = .ok (.ifCond .eq 7, 3) := by decide +kernel
theorem dX8_allNets_66 : decode cX8_allNets 66 = .ok (.iconst 1, 1) := by decide +kernel
theorem dX8_allNets_67 : decode cX8_allNets 67 = .ok (.goto 4, 3) := by decide +kernel
theorem dX8_allNets_70 : decode cX8_allNets 70 = .ok (.iconst 0, 1) := by decide +kernel
theorem dX8_allNets_71 : decode cX8_allNets 71 = .ok (.iadd, 1) := by decide +kernel
theorem dX8_allNets_72 : decode cX8_allNets 72 = .ok (.istore_n 1, 1) := by decide +kernel
theorem dX8_allNets_73 : decode cX8_allNets 73 = .ok (.iinc 2 1, 3) := by decide +kernel
theorem dX8_allNets_76 : decode cX8_allNets 76 = .ok (.goto (-64), 3) := by decide +kernel
theorem dX8_allNets_79 : decode cX8_allNets 79 = .ok (.iload_n 1, 1) := by decide +kernel
theorem dX8_allNets_80 : decode cX8_allNets 80 = .ok (.ireturn, 1) := by decide +kernel
set_option maxRecDepth 20000 in
theorem ggX8_splitPairs_X8_isSplit : GoodIn wsX8_splitPairs wsX8_isSplit := goodIn_r _ [5, 6, 7, 8, 9, 10, 11, 12, 13, 14, 15, 16, 17, 18, 19, 20, 21, 22, 23, 24, 25, 26, 27, 28, 29, 30, 31, 32, 33, 34, 35] (by decide +kernel) (by decide +kernel)
set_option maxRecDepth 20000 in
theorem gX8_splitPairs_X8_isSplit : GoodIn wsX8_splitPairs (wsV RX8 202 RX8 yX8_isSplit wsX8_isSplit) := goodIn_app (goodIn_of _ (by decide +kernel)) ggX8_splitPairs_X8_isSplit
theorem dX8_splitPairs_0 : decode cX8_splitPairs 0 = .ok (.iconst 0, 1) := by decide +kernel
theorem dX8_splitPairs_1 : decode cX8_splitPairs 1 = .ok (.istore_n 1, 1) := by decide +kernel
theorem dX8_splitPairs_2 : decode cX8_splitPairs 2 = .ok (.iconst 0, 1) := by decide +kernel
theorem dX8_splitPairs_3 : decode cX8_splitPairs 3 = .ok (.istore_n 2, 1) := by decide +kernel
theorem dX8_splitPairs_4 : decode cX8_splitPairs 4 = .ok (.iload_n 2, 1) := by decide +kernel
theorem dX8_splitPairs_5 : decode cX8_splitPairs 5 = .ok (.iconst 4, 1) := by decide +kernel
theorem dX8_splitPairs_6 : decode cX8_splitPairs 6 = .ok (.if_icmp .ge 27, 3) := by decide +kernel
theorem dX8_splitPairs_9 : decode cX8_splitPairs 9 = .ok (.iload_n 1, 1) := by decide +kernel
theorem dX8_splitPairs_10 : decode cX8_splitPairs 10 = .ok (.aload_n 0, 1) := by decide +kernel
theorem dX8_splitPairs_11 : decode cX8_splitPairs 11 = .ok (.iload_n 2, 1) := by decide +kernel
theorem dX8_splitPairs_12 : decode cX8_splitPairs 12 = .ok (.invokevirtual 202, 3) := by decide +kernel
theorem dX8_splitPairs_15 : decode cX8_splitPairs 15 = .ok (.ifCond .eq 9, 3) := by decide +kernel
theorem dX8_splitPairs_18 : decode cX8_splitPairs 18 = .ok (.iconst 1, 1) := by decide +kernel
theorem dX8_splitPairs_19 : decode cX8_splitPairs 19 = .ok (.iload_n 2, 1) := by decide +kernel
theorem dX8_splitPairs_20 : decode cX8_splitPairs 20 = .ok (.ishl, 1) := by decide +kernel
theorem dX8_splitPairs_21 : decode cX8_splitPairs 21 = .ok (.goto 4, 3) := by decide +kernel
theorem dX8_splitPairs_24 : decode cX8_splitPairs 24 = .ok (.iconst 0, 1) := by decide +kernel
theorem dX8_splitPairs_25 : decode cX8_splitPairs 25 = .ok (.ior, 1) := by decide +kernel
theorem dX8_splitPairs_26 : decode cX8_splitPairs 26 = .ok (.istore_n 1, 1) := by decide +kernel
theorem dX8_splitPairs_27 : decode cX8_splitPairs 27 = .ok (.iinc 2 1, 3) := by decide +kernel
theorem dX8_splitPairs_30 : decode cX8_splitPairs 30 = .ok (.goto (-26), 3) := by decide +kernel
theorem dX8_splitPairs_33 : decode cX8_splitPairs 33 = .ok (.iload_n 1, 1) := by decide +kernel
theorem dX8_splitPairs_34 : decode cX8_splitPairs 34 = .ok (.ireturn, 1) := by decide +kernel
set_option maxRecDepth 20000 in
theorem ggX8_counted_X8_presentFaults : GoodIn wsX8_counted wsX8_presentFaults := goodIn_r _ [10, 5, 4, 11, 12, 13, 9, 14, 15, 16, 17, 18, 19, 66, 67, 68, 69, 70, 71, 72, 73, 74, 75, 76, 77, 78, 79, 80, 81, 82, 83, 84, 85, 86, 87, 88, 89, 90, 91, 92, 93, 94] (by decide +kernel) (by decide +kernel)
set_option maxRecDepth 20000 in
theorem gX8_counted_X8_presentFaults : GoodIn wsX8_counted (wsV RX8 255 RX8 yX8_presentFaults wsX8_presentFaults) := goodIn_app (goodIn_of _ (by decide +kernel)) ggX8_counted_X8_presentFaults
set_option maxRecDepth 20000 in
theorem ggX8_counted_X8_allNets : GoodIn wsX8_counted wsX8_allNets := goodIn_r _ [23, 4, 24, 25, 26, 27, 9, 28, 29, 1, 30, 31, 32, 33, 34, 5, 15, 16, 17, 18, 19, 11, 12, 13, 14, 35, 36, 37, 38, 39, 40, 41, 42, 66, 67, 68, 69, 70, 71, 72, 73, 74, 75, 76, 77, 78, 79, 80, 81, 82, 83, 84, 85, 86, 87, 88, 89, 90, 91, 92, 93, 94] (by decide +kernel) (by decide +kernel)
set_option maxRecDepth 20000 in
theorem gX8_counted_X8_allNets : GoodIn wsX8_counted (wsV RX8 258 RX8 yX8_allNets wsX8_allNets) := goodIn_app (goodIn_of _ (by decide +kernel)) ggX8_counted_X8_allNets
set_option maxRecDepth 20000 in
theorem ggX8_counted_X8_wrong : GoodIn wsX8_counted wsX8_wrong := goodIn_r _ [46, 25, 26, 27, 9, 28, 24, 29, 1, 30, 31, 32, 33, 34, 5, 15, 16, 17, 18, 19, 11, 12, 13, 14, 35, 36, 37, 38, 39, 40, 41, 42, 47, 48, 49, 50, 51, 52, 53, 54, 55, 56, 57, 66, 67, 68, 69, 70, 71, 72, 73, 74, 75, 76, 77, 78, 79, 80, 81, 82, 83, 84, 85, 86, 87, 88, 89, 90, 91, 92, 93, 94] (by decide +kernel) (by decide +kernel)
set_option maxRecDepth 20000 in
theorem gX8_counted_X8_wrong : GoodIn wsX8_counted (wsV RX8 120 RX8 yX8_wrong wsX8_wrong) := goodIn_app (goodIn_of _ (by decide +kernel)) ggX8_counted_X8_wrong
set_option maxRecDepth 20000 in
theorem ggX8_counted_X8_bits : GoodIn wsX8_counted wsX8_bits := goodIn_r _ [57] (by decide +kernel) (by decide +kernel)
set_option maxRecDepth 20000 in
theorem gX8_counted_X8_bits : GoodIn wsX8_counted (va_wsS RX8 93 yX8_bits wsX8_bits) := goodIn_app (goodIn_of _ (by decide +kernel)) ggX8_counted_X8_bits
set_option maxRecDepth 20000 in
theorem ggX8_counted_X8_splitPairs : GoodIn wsX8_counted wsX8_splitPairs := goodIn_r _ [61, 62, 63, 64, 9, 65, 29, 66, 67, 68, 69, 70, 71, 72, 73, 74, 75, 76, 77, 78, 79, 80, 81, 82, 83, 84, 85, 86, 87, 88, 89, 90, 91, 92, 93, 94] (by decide +kernel) (by decide +kernel)
set_option maxRecDepth 20000 in
theorem gX8_counted_X8_splitPairs : GoodIn wsX8_counted (wsV RX8 261 RX8 yX8_splitPairs wsX8_splitPairs) := goodIn_app (goodIn_of _ (by decide +kernel)) ggX8_counted_X8_splitPairs
theorem dX8_counted_0 : decode cX8_counted 0 = .ok (.iload_n 1, 1) := by decide +kernel
theorem dX8_counted_1 : decode cX8_counted 1 = .ok (.tableswitch 94 0 7 #[47, 52, 57, 62, 67, 72, 77, 82], 47) := by decide +kernel
theorem dX8_counted_48 : decode cX8_counted 48 = .ok (.aload_n 0, 1) := by decide +kernel
theorem dX8_counted_49 : decode cX8_counted 49 = .ok (.getfield 52, 3) := by decide +kernel
theorem dX8_counted_52 : decode cX8_counted 52 = .ok (.ireturn, 1) := by decide +kernel
theorem dX8_counted_53 : decode cX8_counted 53 = .ok (.aload_n 0, 1) := by decide +kernel
theorem dX8_counted_54 : decode cX8_counted 54 = .ok (.getfield 55, 3) := by decide +kernel
theorem dX8_counted_57 : decode cX8_counted 57 = .ok (.ireturn, 1) := by decide +kernel
theorem dX8_counted_58 : decode cX8_counted 58 = .ok (.aload_n 0, 1) := by decide +kernel
theorem dX8_counted_59 : decode cX8_counted 59 = .ok (.getfield 58, 3) := by decide +kernel
theorem dX8_counted_62 : decode cX8_counted 62 = .ok (.ireturn, 1) := by decide +kernel
theorem dX8_counted_63 : decode cX8_counted 63 = .ok (.aload_n 0, 1) := by decide +kernel
theorem dX8_counted_64 : decode cX8_counted 64 = .ok (.getfield 61, 3) := by decide +kernel
theorem dX8_counted_67 : decode cX8_counted 67 = .ok (.ireturn, 1) := by decide +kernel
theorem dX8_counted_68 : decode cX8_counted 68 = .ok (.aload_n 0, 1) := by decide +kernel
theorem dX8_counted_69 : decode cX8_counted 69 = .ok (.getfield 64, 3) := by decide +kernel
theorem dX8_counted_72 : decode cX8_counted 72 = .ok (.ireturn, 1) := by decide +kernel
theorem dX8_counted_73 : decode cX8_counted 73 = .ok (.aload_n 0, 1) := by decide +kernel
theorem dX8_counted_74 : decode cX8_counted 74 = .ok (.invokevirtual 255, 3) := by decide +kernel
theorem dX8_counted_77 : decode cX8_counted 77 = .ok (.ireturn, 1) := by decide +kernel
theorem dX8_counted_78 : decode cX8_counted 78 = .ok (.aload_n 0, 1) := by decide +kernel
theorem dX8_counted_79 : decode cX8_counted 79 = .ok (.invokevirtual 258, 3) := by decide +kernel
theorem dX8_counted_82 : decode cX8_counted 82 = .ok (.ireturn, 1) := by decide +kernel
theorem dX8_counted_83 : decode cX8_counted 83 = .ok (.aload_n 0, 1) := by decide +kernel
theorem dX8_counted_84 : decode cX8_counted 84 = .ok (.aload_n 0, 1) := by decide +kernel
theorem dX8_counted_85 : decode cX8_counted 85 = .ok (.getfield 61, 3) := by decide +kernel
theorem dX8_counted_88 : decode cX8_counted 88 = .ok (.invokevirtual 120, 3) := by decide +kernel
theorem dX8_counted_91 : decode cX8_counted 91 = .ok (.invokestatic 93, 3) := by decide +kernel
theorem dX8_counted_94 : decode cX8_counted 94 = .ok (.ireturn, 1) := by decide +kernel
theorem dX8_counted_95 : decode cX8_counted 95 = .ok (.aload_n 0, 1) := by decide +kernel
theorem dX8_counted_96 : decode cX8_counted 96 = .ok (.invokevirtual 261, 3) := by decide +kernel
theorem dX8_counted_99 : decode cX8_counted 99 = .ok (.ireturn, 1) := by decide +kernel
set_option maxRecDepth 20000 in
theorem ggX8_count_X8_within : GoodIn wsX8_count wsX8_within := goodIn_r _ [5] (by decide +kernel) (by decide +kernel)
set_option maxRecDepth 20000 in
theorem gX8_count_X8_within : GoodIn wsX8_count (va_wsS RX8 48 yX8_within wsX8_within) := goodIn_app (goodIn_of _ (by decide +kernel)) ggX8_count_X8_within
set_option maxRecDepth 20000 in
theorem ggX8_count_X8_counted : GoodIn wsX8_count wsX8_counted := goodIn_r _ [9, 10, 11, 12, 13, 14, 15, 16, 17, 4, 18, 19, 20, 21, 22, 23, 24, 25, 26, 27, 28, 29, 30, 31, 32, 33, 34, 35, 36, 37, 38, 39, 40, 41, 42, 43, 44, 45, 46, 47, 48, 49, 50, 51, 52, 53, 54, 55, 56, 57, 58, 59, 60, 61, 62, 63, 64, 65, 66, 67, 68, 69, 70, 71, 72, 73, 74, 75, 76, 77, 78, 79, 80, 81, 82, 83, 84, 85, 86, 87, 88, 89, 90, 91, 92, 93, 94, 95, 96, 97, 98, 99, 100, 101, 102] (by decide +kernel) (by decide +kernel)
set_option maxRecDepth 20000 in
theorem gX8_count_X8_counted : GoodIn wsX8_count (wsV RX8 264 RX8 yX8_counted wsX8_counted) := goodIn_app (goodIn_of _ (by decide +kernel)) ggX8_count_X8_counted
theorem dX8_count_0 : decode cX8_count 0 = .ok (.aload_n 0, 1) := by decide +kernel
theorem dX8_count_1 : decode cX8_count 1 = .ok (.iload_n 1, 1) := by decide +kernel
theorem dX8_count_2 : decode cX8_count 2 = .ok (.iconst 0, 1) := by decide +kernel
theorem dX8_count_3 : decode cX8_count 3 = .ok (.bipush 8, 2) := by decide +kernel
theorem dX8_count_5 : decode cX8_count 5 = .ok (.invokestatic 48, 3) := by decide +kernel
theorem dX8_count_8 : decode cX8_count 8 = .ok (.ifCond .eq 7, 3) := by decide +kernel
theorem dX8_count_11 : decode cX8_count 11 = .ok (.iconst 0, 1) := by decide +kernel
theorem dX8_count_12 : decode cX8_count 12 = .ok (.goto 4, 3) := by decide +kernel
theorem dX8_count_15 : decode cX8_count 15 = .ok (.iconst 1, 1) := by decide +kernel
theorem dX8_count_16 : decode cX8_count 16 = .ok (.putfield 44, 3) := by decide +kernel
theorem dX8_count_19 : decode cX8_count 19 = .ok (.aload_n 0, 1) := by decide +kernel
theorem dX8_count_20 : decode cX8_count 20 = .ok (.getfield 44, 3) := by decide +kernel
theorem dX8_count_23 : decode cX8_count 23 = .ok (.ifCond .le 7, 3) := by decide +kernel
theorem dX8_count_26 : decode cX8_count 26 = .ok (.iconst 0, 1) := by decide +kernel
theorem dX8_count_27 : decode cX8_count 27 = .ok (.goto 8, 3) := by decide +kernel
theorem dX8_count_30 : decode cX8_count 30 = .ok (.aload_n 0, 1) := by decide +kernel
theorem dX8_count_31 : decode cX8_count 31 = .ok (.iload_n 1, 1) := by decide +kernel
theorem dX8_count_32 : decode cX8_count 32 = .ok (.invokevirtual 264, 3) := by decide +kernel
theorem dX8_count_35 : decode cX8_count 35 = .ok (.ireturn, 1) := by decide +kernel
set_option maxRecDepth 20000 in
theorem ggX8_faultNow_X8_of : GoodIn wsX8_faultNow wsX8_of := goodIn_r _ [6, 7, 12, 13, 14, 15, 16, 17, 18, 19, 20, 21, 22, 23, 24, 25, 26, 27, 28, 29, 30, 31, 32, 33, 34, 35, 36, 37, 38, 39, 40] (by decide +kernel) (by decide +kernel)
set_option maxRecDepth 20000 in
theorem gX8_faultNow_X8_of : GoodIn wsX8_faultNow (wsV RX8 70 RX8 yX8_of wsX8_of) := goodIn_app (goodIn_of _ (by decide +kernel)) ggX8_faultNow_X8_of
set_option maxRecDepth 20000 in
theorem ggX8_faultNow_X8_isPresent : GoodIn wsX8_faultNow wsX8_isPresent := goodIn_r _ [11, 2, 3, 4, 5, 6, 7, 12, 13, 14, 15, 16, 17, 18, 19, 20, 21, 22, 23, 24, 25, 26, 27, 28, 29, 30, 31, 32, 33, 34, 35, 36, 37, 38, 39, 40] (by decide +kernel) (by decide +kernel)
set_option maxRecDepth 20000 in
theorem gX8_faultNow_X8_isPresent : GoodIn wsX8_faultNow (wsV RX8 74 RX8 yX8_isPresent wsX8_isPresent) := goodIn_app (goodIn_of _ (by decide +kernel)) ggX8_faultNow_X8_isPresent
theorem dX8_faultNow_0 : decode cX8_faultNow 0 = .ok (.iload_n 2, 1) := by decide +kernel
theorem dX8_faultNow_1 : decode cX8_faultNow 1 = .ok (.bipush 6, 2) := by decide +kernel
theorem dX8_faultNow_3 : decode cX8_faultNow 3 = .ok (.if_icmp .ge 12, 3) := by decide +kernel
theorem dX8_faultNow_6 : decode cX8_faultNow 6 = .ok (.aload_n 0, 1) := by decide +kernel
theorem dX8_faultNow_7 : decode cX8_faultNow 7 = .ok (.iload_n 1, 1) := by decide +kernel
theorem dX8_faultNow_8 : decode cX8_faultNow 8 = .ok (.iload_n 2, 1) := by decide +kernel
theorem dX8_faultNow_9 : decode cX8_faultNow 9 = .ok (.invokevirtual 70, 3) := by decide +kernel
theorem dX8_faultNow_12 : decode cX8_faultNow 12 = .ok (.goto 20, 3) := by decide +kernel
theorem dX8_faultNow_15 : decode cX8_faultNow 15 = .ok (.aload_n 0, 1) := by decide +kernel
theorem dX8_faultNow_16 : decode cX8_faultNow 16 = .ok (.iload_n 1, 1) := by decide +kernel
theorem dX8_faultNow_17 : decode cX8_faultNow 17 = .ok (.aload_n 0, 1) := by decide +kernel
theorem dX8_faultNow_18 : decode cX8_faultNow 18 = .ok (.getfield 61, 3) := by decide +kernel
theorem dX8_faultNow_21 : decode cX8_faultNow 21 = .ok (.invokevirtual 74, 3) := by decide +kernel
theorem dX8_faultNow_24 : decode cX8_faultNow 24 = .ok (.ifCond .eq 7, 3) := by decide +kernel
theorem dX8_faultNow_27 : decode cX8_faultNow 27 = .ok (.iconst 1, 1) := by decide +kernel
theorem dX8_faultNow_28 : decode cX8_faultNow 28 = .ok (.goto 4, 3) := by decide +kernel
theorem dX8_faultNow_31 : decode cX8_faultNow 31 = .ok (.iconst 0, 1) := by decide +kernel
theorem dX8_faultNow_32 : decode cX8_faultNow 32 = .ok (.ireturn, 1) := by decide +kernel
set_option maxRecDepth 20000 in
theorem ggX8_fault_X8_within : GoodIn wsX8_fault wsX8_within := goodIn_r _ [6] (by decide +kernel) (by decide +kernel)
set_option maxRecDepth 20000 in
theorem gX8_fault_X8_within : GoodIn wsX8_fault (va_wsS RX8 48 yX8_within wsX8_within) := goodIn_app (goodIn_of _ (by decide +kernel)) ggX8_fault_X8_within
set_option maxRecDepth 20000 in
theorem ggX8_fault_X8_faultNow : GoodIn wsX8_fault wsX8_faultNow := goodIn_r _ [10, 11, 12, 13, 14, 5, 15, 16, 17, 18, 19, 20, 21, 22, 23, 24, 25, 26, 27, 28, 29, 30, 31, 32, 33, 34, 35, 36, 37, 38, 39, 40, 41, 42, 43, 44, 45, 46, 47, 48, 49] (by decide +kernel) (by decide +kernel)
set_option maxRecDepth 20000 in
theorem gX8_fault_X8_faultNow : GoodIn wsX8_fault (wsV RX8 267 RX8 yX8_faultNow wsX8_faultNow) := goodIn_app (goodIn_of _ (by decide +kernel)) ggX8_fault_X8_faultNow
theorem dX8_fault_0 : decode cX8_fault 0 = .ok (.aload_n 0, 1) := by decide +kernel
theorem dX8_fault_1 : decode cX8_fault 1 = .ok (.iload_n 1, 1) := by decide +kernel
theorem dX8_fault_2 : decode cX8_fault 2 = .ok (.iconst 0, 1) := by decide +kernel
theorem dX8_fault_3 : decode cX8_fault 3 = .ok (.aload_n 0, 1) := by decide +kernel
theorem dX8_fault_4 : decode cX8_fault 4 = .ok (.getfield 64, 3) := by decide +kernel
theorem dX8_fault_7 : decode cX8_fault 7 = .ok (.iconst 1, 1) := by decide +kernel
theorem dX8_fault_8 : decode cX8_fault 8 = .ok (.isub, 1) := by decide +kernel
theorem dX8_fault_9 : decode cX8_fault 9 = .ok (.invokestatic 48, 3) := by decide +kernel
theorem dX8_fault_12 : decode cX8_fault 12 = .ok (.ifCond .ne 7, 3) := by decide +kernel
theorem dX8_fault_15 : decode cX8_fault 15 = .ok (.iconst 1, 1) := by decide +kernel
theorem dX8_fault_16 : decode cX8_fault 16 = .ok (.goto 18, 3) := by decide +kernel
theorem dX8_fault_19 : decode cX8_fault 19 = .ok (.iload_n 2, 1) := by decide +kernel
theorem dX8_fault_20 : decode cX8_fault 20 = .ok (.iconst 0, 1) := by decide +kernel
theorem dX8_fault_21 : decode cX8_fault 21 = .ok (.bipush 6, 2) := by decide +kernel
theorem dX8_fault_23 : decode cX8_fault 23 = .ok (.invokestatic 48, 3) := by decide +kernel
theorem dX8_fault_26 : decode cX8_fault 26 = .ok (.ifCond .eq 7, 3) := by decide +kernel
theorem dX8_fault_29 : decode cX8_fault 29 = .ok (.iconst 0, 1) := by decide +kernel
theorem dX8_fault_30 : decode cX8_fault 30 = .ok (.goto 4, 3) := by decide +kernel
theorem dX8_fault_33 : decode cX8_fault 33 = .ok (.iconst 2, 1) := by decide +kernel
theorem dX8_fault_34 : decode cX8_fault 34 = .ok (.putfield 44, 3) := by decide +kernel
theorem dX8_fault_37 : decode cX8_fault 37 = .ok (.aload_n 0, 1) := by decide +kernel
theorem dX8_fault_38 : decode cX8_fault 38 = .ok (.getfield 44, 3) := by decide +kernel
theorem dX8_fault_41 : decode cX8_fault 41 = .ok (.ifCond .le 7, 3) := by decide +kernel
theorem dX8_fault_44 : decode cX8_fault 44 = .ok (.iconst 0, 1) := by decide +kernel
theorem dX8_fault_45 : decode cX8_fault 45 = .ok (.goto 9, 3) := by decide +kernel
theorem dX8_fault_48 : decode cX8_fault 48 = .ok (.aload_n 0, 1) := by decide +kernel
theorem dX8_fault_49 : decode cX8_fault 49 = .ok (.iload_n 1, 1) := by decide +kernel
theorem dX8_fault_50 : decode cX8_fault 50 = .ok (.iload_n 2, 1) := by decide +kernel
theorem dX8_fault_51 : decode cX8_fault 51 = .ok (.invokevirtual 267, 3) := by decide +kernel
theorem dX8_fault_54 : decode cX8_fault 54 = .ok (.ireturn, 1) := by decide +kernel
set_option maxRecDepth 20000 in
theorem ggX8_wire_X8_isEnd : GoodIn wsX8_wire wsX8_isEnd := goodIn_r _ [6, 7, 8, 5, 9] (by decide +kernel) (by decide +kernel)
set_option maxRecDepth 20000 in
theorem gX8_wire_X8_isEnd : GoodIn wsX8_wire (va_wsS RX8 102 yX8_isEnd wsX8_isEnd) := goodIn_app (goodIn_of _ (by decide +kernel)) ggX8_wire_X8_isEnd
set_option maxRecDepth 20000 in
theorem ggX8_wire_X8_isWire : GoodIn wsX8_wire wsX8_isWire := goodIn_r _ [12, 7, 8, 5, 9] (by decide +kernel) (by decide +kernel)
set_option maxRecDepth 20000 in
theorem gX8_wire_X8_isWire : GoodIn wsX8_wire (va_wsS RX8 106 yX8_isWire wsX8_isWire) := goodIn_app (goodIn_of _ (by decide +kernel)) ggX8_wire_X8_isWire
theorem dX8_wire_0 : decode cX8_wire 0 = .ok (.aload_n 0, 1) := by decide +kernel
theorem dX8_wire_1 : decode cX8_wire 1 = .ok (.iload_n 1, 1) := by decide +kernel
theorem dX8_wire_2 : decode cX8_wire 2 = .ok (.invokestatic 102, 3) := by decide +kernel
theorem dX8_wire_5 : decode cX8_wire 5 = .ok (.ifCond .ne 7, 3) := by decide +kernel
theorem dX8_wire_8 : decode cX8_wire 8 = .ok (.iconst 1, 1) := by decide +kernel
theorem dX8_wire_9 : decode cX8_wire 9 = .ok (.goto 15, 3) := by decide +kernel
theorem dX8_wire_12 : decode cX8_wire 12 = .ok (.iload_n 2, 1) := by decide +kernel
theorem dX8_wire_13 : decode cX8_wire 13 = .ok (.invokestatic 106, 3) := by decide +kernel
theorem dX8_wire_16 : decode cX8_wire 16 = .ok (.ifCond .eq 7, 3) := by decide +kernel
theorem dX8_wire_19 : decode cX8_wire 19 = .ok (.iconst 0, 1) := by decide +kernel
theorem dX8_wire_20 : decode cX8_wire 20 = .ok (.goto 4, 3) := by decide +kernel
theorem dX8_wire_23 : decode cX8_wire 23 = .ok (.iconst 2, 1) := by decide +kernel
theorem dX8_wire_24 : decode cX8_wire 24 = .ok (.putfield 44, 3) := by decide +kernel
theorem dX8_wire_27 : decode cX8_wire 27 = .ok (.aload_n 0, 1) := by decide +kernel
theorem dX8_wire_28 : decode cX8_wire 28 = .ok (.getfield 44, 3) := by decide +kernel
theorem dX8_wire_31 : decode cX8_wire 31 = .ok (.ifCond .le 7, 3) := by decide +kernel
theorem dX8_wire_34 : decode cX8_wire 34 = .ok (.iconst 0, 1) := by decide +kernel
theorem dX8_wire_35 : decode cX8_wire 35 = .ok (.goto 14, 3) := by decide +kernel
theorem dX8_wire_38 : decode cX8_wire 38 = .ok (.aload_n 0, 1) := by decide +kernel
theorem dX8_wire_39 : decode cX8_wire 39 = .ok (.getfield 7, 3) := by decide +kernel
theorem dX8_wire_42 : decode cX8_wire 42 = .ok (.bipush 8, 2) := by decide +kernel
theorem dX8_wire_44 : decode cX8_wire 44 = .ok (.iload_n 1, 1) := by decide +kernel
theorem dX8_wire_45 : decode cX8_wire 45 = .ok (.imul, 1) := by decide +kernel
theorem dX8_wire_46 : decode cX8_wire 46 = .ok (.iload_n 2, 1) := by decide +kernel
theorem dX8_wire_47 : decode cX8_wire 47 = .ok (.iadd, 1) := by decide +kernel
theorem dX8_wire_48 : decode cX8_wire 48 = .ok (.iaload, 1) := by decide +kernel
theorem dX8_wire_49 : decode cX8_wire 49 = .ok (.ireturn, 1) := by decide +kernel
set_option maxRecDepth 20000 in
theorem ggX8_wrongShare_X8_wrongRecords : GoodIn wsX8_wrongShare wsX8_wrongRecords := goodIn_r _ [7, 2, 8, 9, 10, 6, 11, 12, 13, 14, 15, 16, 17, 18, 19, 20, 21, 22, 23, 24, 25, 26, 27, 28, 29, 30, 31, 32, 33, 34, 35, 36, 37, 38, 39, 40, 41] (by decide +kernel) (by decide +kernel)
set_option maxRecDepth 20000 in
theorem gX8_wrongShare_X8_wrongRecords : GoodIn wsX8_wrongShare (wsV RX8 214 RX8 yX8_wrongRecords wsX8_wrongRecords) := goodIn_app (goodIn_of _ (by decide +kernel)) ggX8_wrongShare_X8_wrongRecords
theorem dX8_wrongShare_0 : decode cX8_wrongShare 0 = .ok (.aload_n 0, 1) := by decide +kernel
theorem dX8_wrongShare_1 : decode cX8_wrongShare 1 = .ok (.iconst 0, 1) := by decide +kernel
theorem dX8_wrongShare_2 : decode cX8_wrongShare 2 = .ok (.putfield 44, 3) := by decide +kernel
theorem dX8_wrongShare_5 : decode cX8_wrongShare 5 = .ok (.iconst 0, 1) := by decide +kernel
theorem dX8_wrongShare_6 : decode cX8_wrongShare 6 = .ok (.istore_n 1, 1) := by decide +kernel
theorem dX8_wrongShare_7 : decode cX8_wrongShare 7 = .ok (.iconst 0, 1) := by decide +kernel
theorem dX8_wrongShare_8 : decode cX8_wrongShare 8 = .ok (.istore_n 2, 1) := by decide +kernel
theorem dX8_wrongShare_9 : decode cX8_wrongShare 9 = .ok (.iload_n 2, 1) := by decide +kernel
theorem dX8_wrongShare_10 : decode cX8_wrongShare 10 = .ok (.bipush 8, 2) := by decide +kernel
theorem dX8_wrongShare_12 : decode cX8_wrongShare 12 = .ok (.if_icmp .ge 17, 3) := by decide +kernel
theorem dX8_wrongShare_15 : decode cX8_wrongShare 15 = .ok (.iload_n 1, 1) := by decide +kernel
theorem dX8_wrongShare_16 : decode cX8_wrongShare 16 = .ok (.aload_n 0, 1) := by decide +kernel
theorem dX8_wrongShare_17 : decode cX8_wrongShare 17 = .ok (.iload_n 2, 1) := by decide +kernel
theorem dX8_wrongShare_18 : decode cX8_wrongShare 18 = .ok (.invokevirtual 214, 3) := by decide +kernel
theorem dX8_wrongShare_21 : decode cX8_wrongShare 21 = .ok (.iadd, 1) := by decide +kernel
theorem dX8_wrongShare_22 : decode cX8_wrongShare 22 = .ok (.istore_n 1, 1) := by decide +kernel
theorem dX8_wrongShare_23 : decode cX8_wrongShare 23 = .ok (.iinc 2 1, 3) := by decide +kernel
theorem dX8_wrongShare_26 : decode cX8_wrongShare 26 = .ok (.goto (-17), 3) := by decide +kernel
theorem dX8_wrongShare_29 : decode cX8_wrongShare 29 = .ok (.aload_n 0, 1) := by decide +kernel
theorem dX8_wrongShare_30 : decode cX8_wrongShare 30 = .ok (.getfield 67, 3) := by decide +kernel
theorem dX8_wrongShare_33 : decode cX8_wrongShare 33 = .ok (.ifCond .ne 7, 3) := by decide +kernel
theorem dX8_wrongShare_36 : decode cX8_wrongShare 36 = .ok (.dconst 0, 1) := by decide +kernel
theorem dX8_wrongShare_37 : decode cX8_wrongShare 37 = .ok (.goto 16, 3) := by decide +kernel
theorem dX8_wrongShare_40 : decode cX8_wrongShare 40 = .ok (.dconst 1, 1) := by decide +kernel
theorem dX8_wrongShare_41 : decode cX8_wrongShare 41 = .ok (.iload_n 1, 1) := by decide +kernel
theorem dX8_wrongShare_42 : decode cX8_wrongShare 42 = .ok (.i2d, 1) := by decide +kernel
theorem dX8_wrongShare_43 : decode cX8_wrongShare 43 = .ok (.dmul, 1) := by decide +kernel
theorem dX8_wrongShare_44 : decode cX8_wrongShare 44 = .ok (.bipush 8, 2) := by decide +kernel
theorem dX8_wrongShare_46 : decode cX8_wrongShare 46 = .ok (.aload_n 0, 1) := by decide +kernel
theorem dX8_wrongShare_47 : decode cX8_wrongShare 47 = .ok (.getfield 67, 3) := by decide +kernel
theorem dX8_wrongShare_50 : decode cX8_wrongShare 50 = .ok (.imul, 1) := by decide +kernel
theorem dX8_wrongShare_51 : decode cX8_wrongShare 51 = .ok (.i2d, 1) := by decide +kernel
theorem dX8_wrongShare_52 : decode cX8_wrongShare 52 = .ok (.ddiv, 1) := by decide +kernel
theorem dX8_wrongShare_53 : decode cX8_wrongShare 53 = .ok (.dreturn, 1) := by decide +kernel
theorem dX8_mix_0 : decode cX8_mix 0 = .ok (.aload_n 0, 1) := by decide +kernel
theorem dX8_mix_1 : decode cX8_mix 1 = .ok (.ldc2_w 270, 3) := by decide +kernel
theorem dX8_mix_4 : decode cX8_mix 4 = .ok (.aload_n 0, 1) := by decide +kernel
theorem dX8_mix_5 : decode cX8_mix 5 = .ok (.getfield 272, 3) := by decide +kernel
theorem dX8_mix_8 : decode cX8_mix 8 = .ok (.lmul, 1) := by decide +kernel
theorem dX8_mix_9 : decode cX8_mix 9 = .ok (.lload_n 1, 1) := by decide +kernel
theorem dX8_mix_10 : decode cX8_mix 10 = .ok (.ladd, 1) := by decide +kernel
theorem dX8_mix_11 : decode cX8_mix 11 = .ok (.putfield 272, 3) := by decide +kernel
theorem dX8_mix_14 : decode cX8_mix 14 = .ok (.return_, 1) := by decide +kernel
set_option maxRecDepth 20000 in
theorem ggX8_mixPin_X8_mix : GoodIn wsX8_mixPin wsX8_mix := goodIn_r _ [7, 8, 9, 91, 92, 93, 94, 95, 96, 97, 98, 99, 100, 101, 102, 103, 104, 105, 106, 107, 108, 109, 110, 111, 112, 113, 114, 115, 116, 117, 118, 119] (by decide +kernel) (by decide +kernel)
set_option maxRecDepth 20000 in
theorem gX8_mixPin_X8_mix : GoodIn wsX8_mixPin (wsV RX8 276 RX8 yX8_mix wsX8_mix) := goodIn_app (goodIn_of _ (by decide +kernel)) ggX8_mixPin_X8_mix
set_option maxRecDepth 20000 in
theorem ggX8_mixPin_X8_joinedNow : GoodIn wsX8_mixPin wsX8_joinedNow := goodIn_r _ [13, 14, 15, 16, 17, 6, 18, 19, 1, 20, 21, 22, 23, 24, 25, 26, 27, 28, 29, 30, 31, 32, 33, 34, 35, 36, 37, 38, 39, 40, 41, 42, 43, 44, 45, 46, 47, 91, 92, 93, 94, 95, 96, 97, 98, 99, 100, 101, 102, 103, 104, 105, 106, 107, 108, 109, 110, 111, 112, 113, 114, 115, 116, 117, 118, 119] (by decide +kernel) (by decide +kernel)
set_option maxRecDepth 20000 in
theorem gX8_mixPin_X8_joinedNow : GoodIn wsX8_mixPin (wsV RX8 187 RX8 yX8_joinedNow wsX8_joinedNow) := goodIn_app (goodIn_of _ (by decide +kernel)) ggX8_mixPin_X8_joinedNow
set_option maxRecDepth 20000 in
theorem ggX8_mixPin_X8_statusNow : GoodIn wsX8_mixPin wsX8_statusNow := goodIn_r _ [51, 44, 45, 46, 6, 47, 19, 52, 53, 54, 91, 92, 93, 94, 95, 96, 97, 98, 99, 100, 101, 102, 103, 104, 105, 106, 107, 108, 109, 110, 111, 112, 113, 114, 115, 116, 117, 118, 119] (by decide +kernel) (by decide +kernel)
set_option maxRecDepth 20000 in
theorem gX8_mixPin_X8_statusNow : GoodIn wsX8_mixPin (wsV RX8 99 RX8 yX8_statusNow wsX8_statusNow) := goodIn_app (goodIn_of _ (by decide +kernel)) ggX8_mixPin_X8_statusNow
set_option maxRecDepth 20000 in
theorem ggX8_mixPin_X8_echoNow : GoodIn wsX8_mixPin wsX8_echoNow := goodIn_r _ [58, 1, 59, 20, 60, 61, 62, 63, 6, 64, 26, 14, 27, 28, 29, 30, 31, 32, 33, 34, 35, 91, 92, 93, 94, 95, 96, 97, 98, 99, 100, 101, 102, 103, 104, 105, 106, 107, 108, 109, 110, 111, 112, 113, 114, 115, 116, 117, 118, 119] (by decide +kernel) (by decide +kernel)
set_option maxRecDepth 20000 in
theorem gX8_mixPin_X8_echoNow : GoodIn wsX8_mixPin (wsV RX8 193 RX8 yX8_echoNow wsX8_echoNow) := goodIn_app (goodIn_of _ (by decide +kernel)) ggX8_mixPin_X8_echoNow
set_option maxRecDepth 20000 in
theorem ggX8_mixPin_X8_recordsNow : GoodIn wsX8_mixPin wsX8_recordsNow := goodIn_r _ [68, 69, 70, 71, 72, 6, 73, 74, 75, 76, 77, 78, 79, 80, 81, 82, 83, 84, 85, 86, 87, 88, 89, 90, 91, 92, 93, 94, 95, 96, 97, 98, 99, 100, 101, 102, 103, 104, 105, 106, 107, 108, 109, 110, 111, 112, 113, 114, 115, 116, 117, 118, 119] (by decide +kernel) (by decide +kernel)
set_option maxRecDepth 20000 in
theorem gX8_mixPin_X8_recordsNow : GoodIn wsX8_mixPin (wsV RX8 222 RX8 yX8_recordsNow wsX8_recordsNow) := goodIn_app (goodIn_of _ (by decide +kernel)) ggX8_mixPin_X8_recordsNow
theorem dX8_mixPin_0 : decode cX8_mixPin 0 = .ok (.aload_n 0, 1) := by decide +kernel
theorem dX8_mixPin_1 : decode cX8_mixPin 1 = .ok (.aload_n 0, 1) := by decide +kernel
theorem dX8_mixPin_2 : decode cX8_mixPin 2 = .ok (.getfield 7, 3) := by decide +kernel
theorem dX8_mixPin_5 : decode cX8_mixPin 5 = .ok (.iload_n 1, 1) := by decide +kernel
theorem dX8_mixPin_6 : decode cX8_mixPin 6 = .ok (.iaload, 1) := by decide +kernel
theorem dX8_mixPin_7 : decode cX8_mixPin 7 = .ok (.i2l, 1) := by decide +kernel
theorem dX8_mixPin_8 : decode cX8_mixPin 8 = .ok (.invokevirtual 276, 3) := by decide +kernel
theorem dX8_mixPin_11 : decode cX8_mixPin 11 = .ok (.aload_n 0, 1) := by decide +kernel
theorem dX8_mixPin_12 : decode cX8_mixPin 12 = .ok (.aload_n 0, 1) := by decide +kernel
theorem dX8_mixPin_13 : decode cX8_mixPin 13 = .ok (.getfield 7, 3) := by decide +kernel
theorem dX8_mixPin_16 : decode cX8_mixPin 16 = .ok (.bipush 8, 2) := by decide +kernel
theorem dX8_mixPin_18 : decode cX8_mixPin 18 = .ok (.iload_n 1, 1) := by decide +kernel
theorem dX8_mixPin_19 : decode cX8_mixPin 19 = .ok (.iadd, 1) := by decide +kernel
theorem dX8_mixPin_20 : decode cX8_mixPin 20 = .ok (.iaload, 1) := by decide +kernel
theorem dX8_mixPin_21 : decode cX8_mixPin 21 = .ok (.i2l, 1) := by decide +kernel
theorem dX8_mixPin_22 : decode cX8_mixPin 22 = .ok (.invokevirtual 276, 3) := by decide +kernel
theorem dX8_mixPin_25 : decode cX8_mixPin 25 = .ok (.aload_n 0, 1) := by decide +kernel
theorem dX8_mixPin_26 : decode cX8_mixPin 26 = .ok (.aload_n 0, 1) := by decide +kernel
theorem dX8_mixPin_27 : decode cX8_mixPin 27 = .ok (.iconst 0, 1) := by decide +kernel
theorem dX8_mixPin_28 : decode cX8_mixPin 28 = .ok (.iload_n 1, 1) := by decide +kernel
theorem dX8_mixPin_29 : decode cX8_mixPin 29 = .ok (.iconst 0, 1) := by decide +kernel
theorem dX8_mixPin_30 : decode cX8_mixPin 30 = .ok (.invokevirtual 187, 3) := by decide +kernel
theorem dX8_mixPin_33 : decode cX8_mixPin 33 = .ok (.i2l, 1) := by decide +kernel
theorem dX8_mixPin_34 : decode cX8_mixPin 34 = .ok (.invokevirtual 276, 3) := by decide +kernel
theorem dX8_mixPin_37 : decode cX8_mixPin 37 = .ok (.aload_n 0, 1) := by decide +kernel
theorem dX8_mixPin_38 : decode cX8_mixPin 38 = .ok (.aload_n 0, 1) := by decide +kernel
theorem dX8_mixPin_39 : decode cX8_mixPin 39 = .ok (.iconst 0, 1) := by decide +kernel
theorem dX8_mixPin_40 : decode cX8_mixPin 40 = .ok (.iload_n 1, 1) := by decide +kernel
theorem dX8_mixPin_41 : decode cX8_mixPin 41 = .ok (.iconst 1, 1) := by decide +kernel
theorem dX8_mixPin_42 : decode cX8_mixPin 42 = .ok (.invokevirtual 187, 3) := by decide +kernel
theorem dX8_mixPin_45 : decode cX8_mixPin 45 = .ok (.i2l, 1) := by decide +kernel
theorem dX8_mixPin_46 : decode cX8_mixPin 46 = .ok (.invokevirtual 276, 3) := by decide +kernel
theorem dX8_mixPin_49 : decode cX8_mixPin 49 = .ok (.aload_n 0, 1) := by decide +kernel
theorem dX8_mixPin_50 : decode cX8_mixPin 50 = .ok (.aload_n 0, 1) := by decide +kernel
theorem dX8_mixPin_51 : decode cX8_mixPin 51 = .ok (.iconst 1, 1) := by decide +kernel
theorem dX8_mixPin_52 : decode cX8_mixPin 52 = .ok (.iload_n 1, 1) := by decide +kernel
theorem dX8_mixPin_53 : decode cX8_mixPin 53 = .ok (.iconst 1, 1) := by decide +kernel
theorem dX8_mixPin_54 : decode cX8_mixPin 54 = .ok (.invokevirtual 187, 3) := by decide +kernel
theorem dX8_mixPin_57 : decode cX8_mixPin 57 = .ok (.i2l, 1) := by decide +kernel
theorem dX8_mixPin_58 : decode cX8_mixPin 58 = .ok (.invokevirtual 276, 3) := by decide +kernel
theorem dX8_mixPin_61 : decode cX8_mixPin 61 = .ok (.aload_n 0, 1) := by decide +kernel
theorem dX8_mixPin_62 : decode cX8_mixPin 62 = .ok (.aload_n 0, 1) := by decide +kernel
theorem dX8_mixPin_63 : decode cX8_mixPin 63 = .ok (.iload_n 1, 1) := by decide +kernel
theorem dX8_mixPin_64 : decode cX8_mixPin 64 = .ok (.invokevirtual 99, 3) := by decide +kernel
theorem dX8_mixPin_67 : decode cX8_mixPin 67 = .ok (.i2l, 1) := by decide +kernel
theorem dX8_mixPin_68 : decode cX8_mixPin 68 = .ok (.invokevirtual 276, 3) := by decide +kernel
theorem dX8_mixPin_71 : decode cX8_mixPin 71 = .ok (.iconst 0, 1) := by decide +kernel
theorem dX8_mixPin_72 : decode cX8_mixPin 72 = .ok (.istore_n 2, 1) := by decide +kernel
theorem dX8_mixPin_73 : decode cX8_mixPin 73 = .ok (.iload_n 2, 1) := by decide +kernel
theorem dX8_mixPin_74 : decode cX8_mixPin 74 = .ok (.iconst 4, 1) := by decide +kernel
theorem dX8_mixPin_75 : decode cX8_mixPin 75 = .ok (.if_icmp .ge 20, 3) := by decide +kernel
theorem dX8_mixPin_78 : decode cX8_mixPin 78 = .ok (.aload_n 0, 1) := by decide +kernel
theorem dX8_mixPin_79 : decode cX8_mixPin 79 = .ok (.aload_n 0, 1) := by decide +kernel
theorem dX8_mixPin_80 : decode cX8_mixPin 80 = .ok (.iload_n 1, 1) := by decide +kernel
theorem dX8_mixPin_81 : decode cX8_mixPin 81 = .ok (.iload_n 2, 1) := by decide +kernel
theorem dX8_mixPin_82 : decode cX8_mixPin 82 = .ok (.invokevirtual 193, 3) := by decide +kernel
theorem dX8_mixPin_85 : decode cX8_mixPin 85 = .ok (.i2l, 1) := by decide +kernel
theorem dX8_mixPin_86 : decode cX8_mixPin 86 = .ok (.invokevirtual 276, 3) := by decide +kernel
theorem dX8_mixPin_89 : decode cX8_mixPin 89 = .ok (.iinc 2 1, 3) := by decide +kernel
theorem dX8_mixPin_92 : decode cX8_mixPin 92 = .ok (.goto (-19), 3) := by decide +kernel
theorem dX8_mixPin_95 : decode cX8_mixPin 95 = .ok (.iconst 0, 1) := by decide +kernel
theorem dX8_mixPin_96 : decode cX8_mixPin 96 = .ok (.istore_n 2, 1) := by decide +kernel
theorem dX8_mixPin_97 : decode cX8_mixPin 97 = .ok (.iload_n 2, 1) := by decide +kernel
theorem dX8_mixPin_98 : decode cX8_mixPin 98 = .ok (.iconst 5, 1) := by decide +kernel
theorem dX8_mixPin_99 : decode cX8_mixPin 99 = .ok (.if_icmp .ge 20, 3) := by decide +kernel
theorem dX8_mixPin_102 : decode cX8_mixPin 102 = .ok (.aload_n 0, 1) := by decide +kernel
theorem dX8_mixPin_103 : decode cX8_mixPin 103 = .ok (.aload_n 0, 1) := by decide +kernel
theorem dX8_mixPin_104 : decode cX8_mixPin 104 = .ok (.iload_n 1, 1) := by decide +kernel
theorem dX8_mixPin_105 : decode cX8_mixPin 105 = .ok (.iload_n 2, 1) := by decide +kernel
theorem dX8_mixPin_106 : decode cX8_mixPin 106 = .ok (.invokevirtual 222, 3) := by decide +kernel
theorem dX8_mixPin_109 : decode cX8_mixPin 109 = .ok (.i2l, 1) := by decide +kernel
theorem dX8_mixPin_110 : decode cX8_mixPin 110 = .ok (.invokevirtual 276, 3) := by decide +kernel
theorem dX8_mixPin_113 : decode cX8_mixPin 113 = .ok (.iinc 2 1, 3) := by decide +kernel
theorem dX8_mixPin_116 : decode cX8_mixPin 116 = .ok (.goto (-19), 3) := by decide +kernel
theorem dX8_mixPin_119 : decode cX8_mixPin 119 = .ok (.aload_n 0, 1) := by decide +kernel
theorem dX8_mixPin_120 : decode cX8_mixPin 120 = .ok (.aload_n 0, 1) := by decide +kernel
theorem dX8_mixPin_121 : decode cX8_mixPin 121 = .ok (.getfield 31, 3) := by decide +kernel
theorem dX8_mixPin_124 : decode cX8_mixPin 124 = .ok (.iload_n 1, 1) := by decide +kernel
theorem dX8_mixPin_125 : decode cX8_mixPin 125 = .ok (.iaload, 1) := by decide +kernel
theorem dX8_mixPin_126 : decode cX8_mixPin 126 = .ok (.i2l, 1) := by decide +kernel
theorem dX8_mixPin_127 : decode cX8_mixPin 127 = .ok (.invokevirtual 276, 3) := by decide +kernel
theorem dX8_mixPin_130 : decode cX8_mixPin 130 = .ok (.return_, 1) := by decide +kernel
set_option maxRecDepth 20000 in
theorem ggX8_digest_X8_counted : GoodIn wsX8_digest wsX8_counted := goodIn_r _ [13, 14, 15, 16, 17, 4, 18, 19, 20, 12, 21, 22, 23, 24, 25, 26, 27, 28, 29, 30, 31, 32, 33, 34, 35, 36, 37, 38, 39, 40, 41, 42, 43, 44, 45, 46, 47, 48, 49, 50, 51, 52, 53, 54, 55, 56, 57, 58, 59, 60, 61, 62, 63, 64, 65, 66, 67, 68, 69, 70, 71, 72, 73, 74, 75, 76, 167, 168, 169, 170, 171, 172, 173, 174, 175, 176, 177, 178, 179, 180, 181, 182, 183, 184, 185, 186, 187, 188, 189, 190, 191, 192, 193, 194, 195] (by decide +kernel) (by decide +kernel)
set_option maxRecDepth 20000 in
theorem gX8_digest_X8_counted : GoodIn wsX8_digest (wsV RX8 264 RX8 yX8_counted wsX8_counted) := goodIn_app (goodIn_of _ (by decide +kernel)) ggX8_digest_X8_counted
set_option maxRecDepth 20000 in
theorem ggX8_digest_X8_mix : GoodIn wsX8_digest wsX8_mix := goodIn_r _ [80, 81, 3, 167, 168, 169, 170, 171, 172, 173, 174, 175, 176, 177, 178, 179, 180, 181, 182, 183, 184, 185, 186, 187, 188, 189, 190, 191, 192, 193, 194, 195] (by decide +kernel) (by decide +kernel)
set_option maxRecDepth 20000 in
theorem gX8_digest_X8_mix : GoodIn wsX8_digest (wsV RX8 276 RX8 yX8_mix wsX8_mix) := goodIn_app (goodIn_of _ (by decide +kernel)) ggX8_digest_X8_mix
set_option maxRecDepth 20000 in
theorem ggX8_digest_X8_faultNow : GoodIn wsX8_digest wsX8_faultNow := goodIn_r _ [85, 17, 26, 27, 28, 12, 29, 30, 22, 23, 24, 25, 167, 168, 169, 170, 171, 172, 173, 174, 175, 176, 177, 178, 179, 180, 181, 182, 183, 184, 185, 186, 187, 188, 189, 190, 191, 192, 193, 194, 195] (by decide +kernel) (by decide +kernel)
set_option maxRecDepth 20000 in
theorem gX8_digest_X8_faultNow : GoodIn wsX8_digest (wsV RX8 267 RX8 yX8_faultNow wsX8_faultNow) := goodIn_app (goodIn_of _ (by decide +kernel)) ggX8_digest_X8_faultNow
set_option maxRecDepth 20000 in
theorem ggX8_digest_X8_findBest : GoodIn wsX8_digest wsX8_findBest := goodIn_r _ [89, 17, 5, 6, 90, 91, 36, 37, 38, 12, 39, 35, 40, 14, 41, 42, 43, 44, 45, 4, 26, 27, 28, 29, 30, 22, 23, 24, 25, 46, 47, 48, 49, 50, 51, 52, 53, 92, 93, 94, 95, 96, 97, 98, 99, 100, 101, 102, 103, 104, 167, 168, 169, 170, 171, 172, 173, 174, 175, 176, 177, 178, 179, 180, 181, 182, 183, 184, 185, 186, 187, 188, 189, 190, 191, 192, 193, 194, 195] (by decide +kernel) (by decide +kernel)
set_option maxRecDepth 20000 in
theorem gX8_digest_X8_findBest : GoodIn wsX8_digest (wsV RX8 243 RX8 yX8_findBest wsX8_findBest) := goodIn_app (goodIn_of _ (by decide +kernel)) ggX8_digest_X8_findBest
set_option maxRecDepth 20000 in
theorem ggX8_digest_X8_mixPin : GoodIn wsX8_digest wsX8_mixPin := goodIn_r _ [108, 40, 96, 77, 78, 79, 12, 80, 81, 3, 109, 110, 111, 112, 17, 36, 37, 38, 39, 35, 14, 41, 42, 43, 44, 45, 4, 26, 27, 28, 29, 30, 22, 23, 24, 25, 46, 47, 48, 49, 50, 51, 52, 53, 62, 63, 64, 65, 58, 59, 60, 61, 66, 67, 68, 113, 114, 115, 116, 15, 16, 117, 118, 119, 120, 121, 122, 123, 124, 125, 126, 127, 128, 129, 130, 131, 132, 133, 134, 135, 136, 137, 138, 139, 140, 141, 142, 143, 144, 145, 146, 167, 168, 169, 170, 171, 172, 173, 174, 175, 176, 177, 178, 179, 180, 181, 182, 183, 184, 185, 186, 187, 188, 189, 190, 191, 192, 193, 194, 195] (by decide +kernel) (by decide +kernel)
set_option maxRecDepth 20000 in
theorem gX8_digest_X8_mixPin : GoodIn wsX8_digest (wsV RX8 282 RX8 yX8_mixPin wsX8_mixPin) := goodIn_app (goodIn_of _ (by decide +kernel)) ggX8_digest_X8_mixPin
set_option maxRecDepth 20000 in
theorem ggX8_digest_X8_talk : GoodIn wsX8_digest wsX8_talk := goodIn_r _ [150, 40, 167, 168, 169, 170, 171, 172, 173, 174, 175, 176, 177, 178, 179, 180, 181, 182, 183, 184, 185, 186, 187, 188, 189, 190, 191, 192, 193, 194, 195] (by decide +kernel) (by decide +kernel)
set_option maxRecDepth 20000 in
theorem gX8_digest_X8_talk : GoodIn wsX8_digest (wsV RX8 199 RX8 yX8_talk wsX8_talk) := goodIn_app (goodIn_of _ (by decide +kernel)) ggX8_digest_X8_talk
set_option maxRecDepth 20000 in
theorem ggX8_digest_X8_identified : GoodIn wsX8_digest wsX8_identified := goodIn_r _ [154, 17, 16, 36, 37, 38, 12, 39, 35, 40, 14, 41, 42, 43, 44, 45, 4, 26, 27, 28, 29, 30, 22, 23, 24, 25, 46, 47, 48, 49, 50, 51, 52, 53, 73, 74, 75, 76, 58, 59, 60, 61, 62, 63, 64, 65, 66, 67, 68, 167, 168, 169, 170, 171, 172, 173, 174, 175, 176, 177, 178, 179, 180, 181, 182, 183, 184, 185, 186, 187, 188, 189, 190, 191, 192, 193, 194, 195] (by decide +kernel) (by decide +kernel)
set_option maxRecDepth 20000 in
theorem gX8_digest_X8_identified : GoodIn wsX8_digest (wsV RX8 205 RX8 yX8_identified wsX8_identified) := goodIn_app (goodIn_of _ (by decide +kernel)) ggX8_digest_X8_identified
set_option maxRecDepth 20000 in
theorem ggX8_digest_X8_suspected : GoodIn wsX8_digest wsX8_suspected := goodIn_r _ [158, 126, 127, 128, 12, 129, 125, 130, 131, 132, 133, 134, 167, 168, 169, 170, 171, 172, 173, 174, 175, 176, 177, 178, 179, 180, 181, 182, 183, 184, 185, 186, 187, 188, 189, 190, 191, 192, 193, 194, 195] (by decide +kernel) (by decide +kernel)
set_option maxRecDepth 20000 in
theorem gX8_digest_X8_suspected : GoodIn wsX8_digest (wsV RX8 225 RX8 yX8_suspected wsX8_suspected) := goodIn_app (goodIn_of _ (by decide +kernel)) ggX8_digest_X8_suspected
set_option maxRecDepth 20000 in
theorem ggX8_digest_X8_netShorts : GoodIn wsX8_digest wsX8_netShorts := goodIn_r _ [162, 35, 62, 63, 64, 12, 65, 66, 67, 68, 167, 168, 169, 170, 171, 172, 173, 174, 175, 176, 177, 178, 179, 180, 181, 182, 183, 184, 185, 186, 187, 188, 189, 190, 191, 192, 193, 194, 195] (by decide +kernel) (by decide +kernel)
set_option maxRecDepth 20000 in
theorem gX8_digest_X8_netShorts : GoodIn wsX8_digest (wsV RX8 246 RX8 yX8_netShorts wsX8_netShorts) := goodIn_app (goodIn_of _ (by decide +kernel)) ggX8_digest_X8_netShorts
set_option maxRecDepth 20000 in
theorem ggX8_digest_X8_splits : GoodIn wsX8_digest wsX8_splits := goodIn_r _ [166, 147, 148, 149, 12, 150, 40, 167, 168, 169, 170, 171, 172, 173, 174, 175, 176, 177, 178, 179, 180, 181, 182, 183, 184, 185, 186, 187, 188, 189, 190, 191, 192, 193, 194, 195] (by decide +kernel) (by decide +kernel)
set_option maxRecDepth 20000 in
theorem gX8_digest_X8_splits : GoodIn wsX8_digest (wsV RX8 249 RX8 yX8_splits wsX8_splits) := goodIn_app (goodIn_of _ (by decide +kernel)) ggX8_digest_X8_splits
theorem dX8_digest_0 : decode cX8_digest 0 = .ok (.aload_n 0, 1) := by decide +kernel
theorem dX8_digest_1 : decode cX8_digest 1 = .ok (.iconst 0, 1) := by decide +kernel
theorem dX8_digest_2 : decode cX8_digest 2 = .ok (.putfield 44, 3) := by decide +kernel
theorem dX8_digest_5 : decode cX8_digest 5 = .ok (.aload_n 0, 1) := by decide +kernel
theorem dX8_digest_6 : decode cX8_digest 6 = .ok (.ldc2_w 280, 3) := by decide +kernel
theorem dX8_digest_9 : decode cX8_digest 9 = .ok (.putfield 272, 3) := by decide +kernel
theorem dX8_digest_12 : decode cX8_digest 12 = .ok (.iconst 0, 1) := by decide +kernel
theorem dX8_digest_13 : decode cX8_digest 13 = .ok (.istore_n 1, 1) := by decide +kernel
theorem dX8_digest_14 : decode cX8_digest 14 = .ok (.iload_n 1, 1) := by decide +kernel
theorem dX8_digest_15 : decode cX8_digest 15 = .ok (.bipush 9, 2) := by decide +kernel
theorem dX8_digest_17 : decode cX8_digest 17 = .ok (.if_icmp .ge 19, 3) := by decide +kernel
theorem dX8_digest_20 : decode cX8_digest 20 = .ok (.aload_n 0, 1) := by decide +kernel
theorem dX8_digest_21 : decode cX8_digest 21 = .ok (.aload_n 0, 1) := by decide +kernel
theorem dX8_digest_22 : decode cX8_digest 22 = .ok (.iload_n 1, 1) := by decide +kernel
theorem dX8_digest_23 : decode cX8_digest 23 = .ok (.invokevirtual 264, 3) := by decide +kernel
theorem dX8_digest_26 : decode cX8_digest 26 = .ok (.i2l, 1) := by decide +kernel
theorem dX8_digest_27 : decode cX8_digest 27 = .ok (.invokevirtual 276, 3) := by decide +kernel
theorem dX8_digest_30 : decode cX8_digest 30 = .ok (.iinc 1 1, 3) := by decide +kernel
theorem dX8_digest_33 : decode cX8_digest 33 = .ok (.goto (-19), 3) := by decide +kernel
theorem dX8_digest_36 : decode cX8_digest 36 = .ok (.iconst 0, 1) := by decide +kernel
theorem dX8_digest_37 : decode cX8_digest 37 = .ok (.istore_n 1, 1) := by decide +kernel
theorem dX8_digest_38 : decode cX8_digest 38 = .ok (.iload_n 1, 1) := by decide +kernel
theorem dX8_digest_39 : decode cX8_digest 39 = .ok (.bipush 7, 2) := by decide +kernel
theorem dX8_digest_41 : decode cX8_digest 41 = .ok (.aload_n 0, 1) := by decide +kernel
theorem dX8_digest_42 : decode cX8_digest 42 = .ok (.getfield 64, 3) := by decide +kernel
theorem dX8_digest_45 : decode cX8_digest 45 = .ok (.imul, 1) := by decide +kernel
theorem dX8_digest_46 : decode cX8_digest 46 = .ok (.if_icmp .ge 26, 3) := by decide +kernel
theorem dX8_digest_49 : decode cX8_digest 49 = .ok (.aload_n 0, 1) := by decide +kernel
theorem dX8_digest_50 : decode cX8_digest 50 = .ok (.aload_n 0, 1) := by decide +kernel
theorem dX8_digest_51 : decode cX8_digest 51 = .ok (.iload_n 1, 1) := by decide +kernel
theorem dX8_digest_52 : decode cX8_digest 52 = .ok (.bipush 7, 2) := by decide +kernel
theorem dX8_digest_54 : decode cX8_digest 54 = .ok (.idiv, 1) := by decide +kernel
theorem dX8_digest_55 : decode cX8_digest 55 = .ok (.iload_n 1, 1) := by decide +kernel
theorem dX8_digest_56 : decode cX8_digest 56 = .ok (.bipush 7, 2) := by decide +kernel
theorem dX8_digest_58 : decode cX8_digest 58 = .ok (.irem, 1) := by decide +kernel
theorem dX8_digest_59 : decode cX8_digest 59 = .ok (.invokevirtual 267, 3) := by decide +kernel
theorem dX8_digest_62 : decode cX8_digest 62 = .ok (.i2l, 1) := by decide +kernel
theorem dX8_digest_63 : decode cX8_digest 63 = .ok (.invokevirtual 276, 3) := by decide +kernel
theorem dX8_digest_66 : decode cX8_digest 66 = .ok (.iinc 1 1, 3) := by decide +kernel
theorem dX8_digest_69 : decode cX8_digest 69 = .ok (.goto (-31), 3) := by decide +kernel
theorem dX8_digest_72 : decode cX8_digest 72 = .ok (.aload_n 0, 1) := by decide +kernel
theorem dX8_digest_73 : decode cX8_digest 73 = .ok (.invokevirtual 243, 3) := by decide +kernel
theorem dX8_digest_76 : decode cX8_digest 76 = .ok (.iconst 0, 1) := by decide +kernel
theorem dX8_digest_77 : decode cX8_digest 77 = .ok (.istore_n 1, 1) := by decide +kernel
theorem dX8_digest_78 : decode cX8_digest 78 = .ok (.iload_n 1, 1) := by decide +kernel
theorem dX8_digest_79 : decode cX8_digest 79 = .ok (.bipush 8, 2) := by decide +kernel
theorem dX8_digest_81 : decode cX8_digest 81 = .ok (.if_icmp .ge 14, 3) := by decide +kernel
theorem dX8_digest_84 : decode cX8_digest 84 = .ok (.aload_n 0, 1) := by decide +kernel
theorem dX8_digest_85 : decode cX8_digest 85 = .ok (.iload_n 1, 1) := by decide +kernel
theorem dX8_digest_86 : decode cX8_digest 86 = .ok (.invokevirtual 282, 3) := by decide +kernel
theorem dX8_digest_89 : decode cX8_digest 89 = .ok (.iinc 1 1, 3) := by decide +kernel
theorem dX8_digest_92 : decode cX8_digest 92 = .ok (.goto (-14), 3) := by decide +kernel
theorem dX8_digest_95 : decode cX8_digest 95 = .ok (.iconst 0, 1) := by decide +kernel
theorem dX8_digest_96 : decode cX8_digest 96 = .ok (.istore_n 1, 1) := by decide +kernel
theorem dX8_digest_97 : decode cX8_digest 97 = .ok (.iload_n 1, 1) := by decide +kernel
theorem dX8_digest_98 : decode cX8_digest 98 = .ok (.iconst 4, 1) := by decide +kernel
theorem dX8_digest_99 : decode cX8_digest 99 = .ok (.if_icmp .ge 35, 3) := by decide +kernel
theorem dX8_digest_102 : decode cX8_digest 102 = .ok (.iload_n 1, 1) := by decide +kernel
theorem dX8_digest_103 : decode cX8_digest 103 = .ok (.iconst 1, 1) := by decide +kernel
theorem dX8_digest_104 : decode cX8_digest 104 = .ok (.iadd, 1) := by decide +kernel
theorem dX8_digest_105 : decode cX8_digest 105 = .ok (.istore_n 2, 1) := by decide +kernel
theorem dX8_digest_106 : decode cX8_digest 106 = .ok (.iload_n 2, 1) := by decide +kernel
theorem dX8_digest_107 : decode cX8_digest 107 = .ok (.iconst 4, 1) := by decide +kernel
theorem dX8_digest_108 : decode cX8_digest 108 = .ok (.if_icmp .ge 20, 3) := by decide +kernel
theorem dX8_digest_111 : decode cX8_digest 111 = .ok (.aload_n 0, 1) := by decide +kernel
theorem dX8_digest_112 : decode cX8_digest 112 = .ok (.aload_n 0, 1) := by decide +kernel
theorem dX8_digest_113 : decode cX8_digest 113 = .ok (.iload_n 1, 1) := by decide +kernel
theorem dX8_digest_114 : decode cX8_digest 114 = .ok (.iload_n 2, 1) := by decide +kernel
theorem dX8_digest_115 : decode cX8_digest 115 = .ok (.invokevirtual 199, 3) := by decide +kernel
theorem dX8_digest_118 : decode cX8_digest 118 = .ok (.i2l, 1) := by decide +kernel
theorem dX8_digest_119 : decode cX8_digest 119 = .ok (.invokevirtual 276, 3) := by decide +kernel
theorem dX8_digest_122 : decode cX8_digest 122 = .ok (.iinc 2 1, 3) := by decide +kernel
theorem dX8_digest_125 : decode cX8_digest 125 = .ok (.goto (-19), 3) := by decide +kernel
theorem dX8_digest_128 : decode cX8_digest 128 = .ok (.iinc 1 1, 3) := by decide +kernel
theorem dX8_digest_131 : decode cX8_digest 131 = .ok (.goto (-34), 3) := by decide +kernel
theorem dX8_digest_134 : decode cX8_digest 134 = .ok (.aload_n 0, 1) := by decide +kernel
theorem dX8_digest_135 : decode cX8_digest 135 = .ok (.aload_n 0, 1) := by decide +kernel
theorem dX8_digest_136 : decode cX8_digest 136 = .ok (.invokevirtual 205, 3) := by decide +kernel
theorem dX8_digest_139 : decode cX8_digest 139 = .ok (.i2l, 1) := by decide +kernel
theorem dX8_digest_140 : decode cX8_digest 140 = .ok (.invokevirtual 276, 3) := by decide +kernel
theorem dX8_digest_143 : decode cX8_digest 143 = .ok (.aload_n 0, 1) := by decide +kernel
theorem dX8_digest_144 : decode cX8_digest 144 = .ok (.aload_n 0, 1) := by decide +kernel
theorem dX8_digest_145 : decode cX8_digest 145 = .ok (.invokevirtual 225, 3) := by decide +kernel
theorem dX8_digest_148 : decode cX8_digest 148 = .ok (.i2l, 1) := by decide +kernel
theorem dX8_digest_149 : decode cX8_digest 149 = .ok (.invokevirtual 276, 3) := by decide +kernel
theorem dX8_digest_152 : decode cX8_digest 152 = .ok (.aload_n 0, 1) := by decide +kernel
theorem dX8_digest_153 : decode cX8_digest 153 = .ok (.aload_n 0, 1) := by decide +kernel
theorem dX8_digest_154 : decode cX8_digest 154 = .ok (.getfield 234, 3) := by decide +kernel
theorem dX8_digest_157 : decode cX8_digest 157 = .ok (.i2l, 1) := by decide +kernel
theorem dX8_digest_158 : decode cX8_digest 158 = .ok (.invokevirtual 276, 3) := by decide +kernel
theorem dX8_digest_161 : decode cX8_digest 161 = .ok (.aload_n 0, 1) := by decide +kernel
theorem dX8_digest_162 : decode cX8_digest 162 = .ok (.aload_n 0, 1) := by decide +kernel
theorem dX8_digest_163 : decode cX8_digest 163 = .ok (.invokevirtual 246, 3) := by decide +kernel
theorem dX8_digest_166 : decode cX8_digest 166 = .ok (.i2l, 1) := by decide +kernel
theorem dX8_digest_167 : decode cX8_digest 167 = .ok (.invokevirtual 276, 3) := by decide +kernel
theorem dX8_digest_170 : decode cX8_digest 170 = .ok (.aload_n 0, 1) := by decide +kernel
theorem dX8_digest_171 : decode cX8_digest 171 = .ok (.aload_n 0, 1) := by decide +kernel
theorem dX8_digest_172 : decode cX8_digest 172 = .ok (.getfield 237, 3) := by decide +kernel
theorem dX8_digest_175 : decode cX8_digest 175 = .ok (.i2l, 1) := by decide +kernel
theorem dX8_digest_176 : decode cX8_digest 176 = .ok (.invokevirtual 276, 3) := by decide +kernel
theorem dX8_digest_179 : decode cX8_digest 179 = .ok (.aload_n 0, 1) := by decide +kernel
theorem dX8_digest_180 : decode cX8_digest 180 = .ok (.aload_n 0, 1) := by decide +kernel
theorem dX8_digest_181 : decode cX8_digest 181 = .ok (.invokevirtual 249, 3) := by decide +kernel
theorem dX8_digest_184 : decode cX8_digest 184 = .ok (.i2l, 1) := by decide +kernel
theorem dX8_digest_185 : decode cX8_digest 185 = .ok (.invokevirtual 276, 3) := by decide +kernel
theorem dX8_digest_188 : decode cX8_digest 188 = .ok (.aload_n 0, 1) := by decide +kernel
theorem dX8_digest_189 : decode cX8_digest 189 = .ok (.aload_n 0, 1) := by decide +kernel
theorem dX8_digest_190 : decode cX8_digest 190 = .ok (.getfield 234, 3) := by decide +kernel
theorem dX8_digest_193 : decode cX8_digest 193 = .ok (.aload_n 0, 1) := by decide +kernel
theorem dX8_digest_194 : decode cX8_digest 194 = .ok (.invokevirtual 246, 3) := by decide +kernel
theorem dX8_digest_197 : decode cX8_digest 197 = .ok (.iadd, 1) := by decide +kernel
theorem dX8_digest_198 : decode cX8_digest 198 = .ok (.aload_n 0, 1) := by decide +kernel
theorem dX8_digest_199 : decode cX8_digest 199 = .ok (.getfield 237, 3) := by decide +kernel
theorem dX8_digest_202 : decode cX8_digest 202 = .ok (.iadd, 1) := by decide +kernel
theorem dX8_digest_203 : decode cX8_digest 203 = .ok (.aload_n 0, 1) := by decide +kernel
theorem dX8_digest_204 : decode cX8_digest 204 = .ok (.invokevirtual 249, 3) := by decide +kernel
theorem dX8_digest_207 : decode cX8_digest 207 = .ok (.iadd, 1) := by decide +kernel
theorem dX8_digest_208 : decode cX8_digest 208 = .ok (.i2l, 1) := by decide +kernel
theorem dX8_digest_209 : decode cX8_digest 209 = .ok (.invokevirtual 276, 3) := by decide +kernel
theorem dX8_digest_212 : decode cX8_digest 212 = .ok (.aload_n 0, 1) := by decide +kernel
theorem dX8_digest_213 : decode cX8_digest 213 = .ok (.aload_n 0, 1) := by decide +kernel
theorem dX8_digest_214 : decode cX8_digest 214 = .ok (.getfield 127, 3) := by decide +kernel
theorem dX8_digest_217 : decode cX8_digest 217 = .ok (.i2l, 1) := by decide +kernel
theorem dX8_digest_218 : decode cX8_digest 218 = .ok (.invokevirtual 276, 3) := by decide +kernel
theorem dX8_digest_221 : decode cX8_digest 221 = .ok (.iconst 0, 1) := by decide +kernel
theorem dX8_digest_222 : decode cX8_digest 222 = .ok (.istore_n 1, 1) := by decide +kernel
theorem dX8_digest_223 : decode cX8_digest 223 = .ok (.iload_n 1, 1) := by decide +kernel
theorem dX8_digest_224 : decode cX8_digest 224 = .ok (.aload_n 0, 1) := by decide +kernel
theorem dX8_digest_225 : decode cX8_digest 225 = .ok (.getfield 127, 3) := by decide +kernel
theorem dX8_digest_228 : decode cX8_digest 228 = .ok (.if_icmp .ge 20, 3) := by decide +kernel
theorem dX8_digest_231 : decode cX8_digest 231 = .ok (.aload_n 0, 1) := by decide +kernel
theorem dX8_digest_232 : decode cX8_digest 232 = .ok (.aload_n 0, 1) := by decide +kernel
theorem dX8_digest_233 : decode cX8_digest 233 = .ok (.getfield 19, 3) := by decide +kernel
theorem dX8_digest_236 : decode cX8_digest 236 = .ok (.iload_n 1, 1) := by decide +kernel
theorem dX8_digest_237 : decode cX8_digest 237 = .ok (.iaload, 1) := by decide +kernel
theorem dX8_digest_238 : decode cX8_digest 238 = .ok (.i2l, 1) := by decide +kernel
theorem dX8_digest_239 : decode cX8_digest 239 = .ok (.invokevirtual 276, 3) := by decide +kernel
theorem dX8_digest_242 : decode cX8_digest 242 = .ok (.iinc 1 1, 3) := by decide +kernel
theorem dX8_digest_245 : decode cX8_digest 245 = .ok (.goto (-22), 3) := by decide +kernel
theorem dX8_digest_248 : decode cX8_digest 248 = .ok (.aload_n 0, 1) := by decide +kernel
theorem dX8_digest_249 : decode cX8_digest 249 = .ok (.getfield 272, 3) := by decide +kernel
theorem dX8_digest_252 : decode cX8_digest 252 = .ok (.lreturn, 1) := by decide +kernel
theorem dJ6_bitCount_0f7a4_0 : decode cJ6_bitCount_0f7a4 0 = .ok (.iload_n 0, 1) := by decide +kernel
theorem dJ6_bitCount_0f7a4_1 : decode cJ6_bitCount_0f7a4 1 = .ok (.iload_n 0, 1) := by decide +kernel
theorem dJ6_bitCount_0f7a4_2 : decode cJ6_bitCount_0f7a4 2 = .ok (.iconst 1, 1) := by decide +kernel
theorem dJ6_bitCount_0f7a4_3 : decode cJ6_bitCount_0f7a4 3 = .ok (.iushr, 1) := by decide +kernel
theorem dJ6_bitCount_0f7a4_4 : decode cJ6_bitCount_0f7a4 4 = .ok (.ldc_w 265, 3) := by decide +kernel
theorem dJ6_bitCount_0f7a4_7 : decode cJ6_bitCount_0f7a4 7 = .ok (.iand, 1) := by decide +kernel
theorem dJ6_bitCount_0f7a4_8 : decode cJ6_bitCount_0f7a4 8 = .ok (.isub, 1) := by decide +kernel
theorem dJ6_bitCount_0f7a4_9 : decode cJ6_bitCount_0f7a4 9 = .ok (.istore_n 0, 1) := by decide +kernel
theorem dJ6_bitCount_0f7a4_10 : decode cJ6_bitCount_0f7a4 10 = .ok (.iload_n 0, 1) := by decide +kernel
theorem dJ6_bitCount_0f7a4_11 : decode cJ6_bitCount_0f7a4 11 = .ok (.ldc_w 266, 3) := by decide +kernel
theorem dJ6_bitCount_0f7a4_14 : decode cJ6_bitCount_0f7a4 14 = .ok (.iand, 1) := by decide +kernel
theorem dJ6_bitCount_0f7a4_15 : decode cJ6_bitCount_0f7a4 15 = .ok (.iload_n 0, 1) := by decide +kernel
theorem dJ6_bitCount_0f7a4_16 : decode cJ6_bitCount_0f7a4 16 = .ok (.iconst 2, 1) := by decide +kernel
theorem dJ6_bitCount_0f7a4_17 : decode cJ6_bitCount_0f7a4 17 = .ok (.iushr, 1) := by decide +kernel
theorem dJ6_bitCount_0f7a4_18 : decode cJ6_bitCount_0f7a4 18 = .ok (.ldc_w 266, 3) := by decide +kernel
theorem dJ6_bitCount_0f7a4_21 : decode cJ6_bitCount_0f7a4 21 = .ok (.iand, 1) := by decide +kernel
theorem dJ6_bitCount_0f7a4_22 : decode cJ6_bitCount_0f7a4 22 = .ok (.iadd, 1) := by decide +kernel
theorem dJ6_bitCount_0f7a4_23 : decode cJ6_bitCount_0f7a4 23 = .ok (.istore_n 0, 1) := by decide +kernel
theorem dJ6_bitCount_0f7a4_24 : decode cJ6_bitCount_0f7a4 24 = .ok (.iload_n 0, 1) := by decide +kernel
theorem dJ6_bitCount_0f7a4_25 : decode cJ6_bitCount_0f7a4 25 = .ok (.iload_n 0, 1) := by decide +kernel
theorem dJ6_bitCount_0f7a4_26 : decode cJ6_bitCount_0f7a4 26 = .ok (.iconst 4, 1) := by decide +kernel
theorem dJ6_bitCount_0f7a4_27 : decode cJ6_bitCount_0f7a4 27 = .ok (.iushr, 1) := by decide +kernel
theorem dJ6_bitCount_0f7a4_28 : decode cJ6_bitCount_0f7a4 28 = .ok (.iadd, 1) := by decide +kernel
theorem dJ6_bitCount_0f7a4_29 : decode cJ6_bitCount_0f7a4 29 = .ok (.ldc_w 267, 3) := by decide +kernel
theorem dJ6_bitCount_0f7a4_32 : decode cJ6_bitCount_0f7a4 32 = .ok (.iand, 1) := by decide +kernel
theorem dJ6_bitCount_0f7a4_33 : decode cJ6_bitCount_0f7a4 33 = .ok (.istore_n 0, 1) := by decide +kernel
theorem dJ6_bitCount_0f7a4_34 : decode cJ6_bitCount_0f7a4 34 = .ok (.iload_n 0, 1) := by decide +kernel
theorem dJ6_bitCount_0f7a4_35 : decode cJ6_bitCount_0f7a4 35 = .ok (.iload_n 0, 1) := by decide +kernel
theorem dJ6_bitCount_0f7a4_36 : decode cJ6_bitCount_0f7a4 36 = .ok (.bipush 8, 2) := by decide +kernel
theorem dJ6_bitCount_0f7a4_38 : decode cJ6_bitCount_0f7a4 38 = .ok (.iushr, 1) := by decide +kernel
theorem dJ6_bitCount_0f7a4_39 : decode cJ6_bitCount_0f7a4 39 = .ok (.iadd, 1) := by decide +kernel
theorem dJ6_bitCount_0f7a4_40 : decode cJ6_bitCount_0f7a4 40 = .ok (.istore_n 0, 1) := by decide +kernel
theorem dJ6_bitCount_0f7a4_41 : decode cJ6_bitCount_0f7a4 41 = .ok (.iload_n 0, 1) := by decide +kernel
theorem dJ6_bitCount_0f7a4_42 : decode cJ6_bitCount_0f7a4 42 = .ok (.iload_n 0, 1) := by decide +kernel
theorem dJ6_bitCount_0f7a4_43 : decode cJ6_bitCount_0f7a4 43 = .ok (.bipush 16, 2) := by decide +kernel
theorem dJ6_bitCount_0f7a4_45 : decode cJ6_bitCount_0f7a4 45 = .ok (.iushr, 1) := by decide +kernel
theorem dJ6_bitCount_0f7a4_46 : decode cJ6_bitCount_0f7a4 46 = .ok (.iadd, 1) := by decide +kernel
theorem dJ6_bitCount_0f7a4_47 : decode cJ6_bitCount_0f7a4 47 = .ok (.istore_n 0, 1) := by decide +kernel
theorem dJ6_bitCount_0f7a4_48 : decode cJ6_bitCount_0f7a4 48 = .ok (.iload_n 0, 1) := by decide +kernel
theorem dJ6_bitCount_0f7a4_49 : decode cJ6_bitCount_0f7a4 49 = .ok (.bipush 63, 2) := by decide +kernel
theorem dJ6_bitCount_0f7a4_51 : decode cJ6_bitCount_0f7a4 51 = .ok (.iand, 1) := by decide +kernel
theorem dJ6_bitCount_0f7a4_52 : decode cJ6_bitCount_0f7a4 52 = .ok (.ireturn, 1) := by decide +kernel
theorem dJ13_bitCount_95d88_0 : decode cJ13_bitCount_95d88 0 = .ok (.lload_n 0, 1) := by decide +kernel
theorem dJ13_bitCount_95d88_1 : decode cJ13_bitCount_95d88 1 = .ok (.lload_n 0, 1) := by decide +kernel
theorem dJ13_bitCount_95d88_2 : decode cJ13_bitCount_95d88 2 = .ok (.iconst 1, 1) := by decide +kernel
theorem dJ13_bitCount_95d88_3 : decode cJ13_bitCount_95d88 3 = .ok (.lushr, 1) := by decide +kernel
theorem dJ13_bitCount_95d88_4 : decode cJ13_bitCount_95d88 4 = .ok (.ldc2_w 314, 3) := by decide +kernel
theorem dJ13_bitCount_95d88_7 : decode cJ13_bitCount_95d88 7 = .ok (.land, 1) := by decide +kernel
theorem dJ13_bitCount_95d88_8 : decode cJ13_bitCount_95d88 8 = .ok (.lsub, 1) := by decide +kernel
theorem dJ13_bitCount_95d88_9 : decode cJ13_bitCount_95d88 9 = .ok (.lstore_n 0, 1) := by decide +kernel
theorem dJ13_bitCount_95d88_10 : decode cJ13_bitCount_95d88 10 = .ok (.lload_n 0, 1) := by decide +kernel
theorem dJ13_bitCount_95d88_11 : decode cJ13_bitCount_95d88 11 = .ok (.ldc2_w 316, 3) := by decide +kernel
theorem dJ13_bitCount_95d88_14 : decode cJ13_bitCount_95d88 14 = .ok (.land, 1) := by decide +kernel
theorem dJ13_bitCount_95d88_15 : decode cJ13_bitCount_95d88 15 = .ok (.lload_n 0, 1) := by decide +kernel
theorem dJ13_bitCount_95d88_16 : decode cJ13_bitCount_95d88 16 = .ok (.iconst 2, 1) := by decide +kernel
theorem dJ13_bitCount_95d88_17 : decode cJ13_bitCount_95d88 17 = .ok (.lushr, 1) := by decide +kernel
theorem dJ13_bitCount_95d88_18 : decode cJ13_bitCount_95d88 18 = .ok (.ldc2_w 316, 3) := by decide +kernel
theorem dJ13_bitCount_95d88_21 : decode cJ13_bitCount_95d88 21 = .ok (.land, 1) := by decide +kernel
theorem dJ13_bitCount_95d88_22 : decode cJ13_bitCount_95d88 22 = .ok (.ladd, 1) := by decide +kernel
theorem dJ13_bitCount_95d88_23 : decode cJ13_bitCount_95d88 23 = .ok (.lstore_n 0, 1) := by decide +kernel
theorem dJ13_bitCount_95d88_24 : decode cJ13_bitCount_95d88 24 = .ok (.lload_n 0, 1) := by decide +kernel
theorem dJ13_bitCount_95d88_25 : decode cJ13_bitCount_95d88 25 = .ok (.lload_n 0, 1) := by decide +kernel
theorem dJ13_bitCount_95d88_26 : decode cJ13_bitCount_95d88 26 = .ok (.iconst 4, 1) := by decide +kernel
theorem dJ13_bitCount_95d88_27 : decode cJ13_bitCount_95d88 27 = .ok (.lushr, 1) := by decide +kernel
theorem dJ13_bitCount_95d88_28 : decode cJ13_bitCount_95d88 28 = .ok (.ladd, 1) := by decide +kernel
theorem dJ13_bitCount_95d88_29 : decode cJ13_bitCount_95d88 29 = .ok (.ldc2_w 318, 3) := by decide +kernel
theorem dJ13_bitCount_95d88_32 : decode cJ13_bitCount_95d88 32 = .ok (.land, 1) := by decide +kernel
theorem dJ13_bitCount_95d88_33 : decode cJ13_bitCount_95d88 33 = .ok (.lstore_n 0, 1) := by decide +kernel
theorem dJ13_bitCount_95d88_34 : decode cJ13_bitCount_95d88 34 = .ok (.lload_n 0, 1) := by decide +kernel
theorem dJ13_bitCount_95d88_35 : decode cJ13_bitCount_95d88 35 = .ok (.lload_n 0, 1) := by decide +kernel
theorem dJ13_bitCount_95d88_36 : decode cJ13_bitCount_95d88 36 = .ok (.bipush 8, 2) := by decide +kernel
theorem dJ13_bitCount_95d88_38 : decode cJ13_bitCount_95d88 38 = .ok (.lushr, 1) := by decide +kernel
theorem dJ13_bitCount_95d88_39 : decode cJ13_bitCount_95d88 39 = .ok (.ladd, 1) := by decide +kernel
theorem dJ13_bitCount_95d88_40 : decode cJ13_bitCount_95d88 40 = .ok (.lstore_n 0, 1) := by decide +kernel
theorem dJ13_bitCount_95d88_41 : decode cJ13_bitCount_95d88 41 = .ok (.lload_n 0, 1) := by decide +kernel
theorem dJ13_bitCount_95d88_42 : decode cJ13_bitCount_95d88 42 = .ok (.lload_n 0, 1) := by decide +kernel
theorem dJ13_bitCount_95d88_43 : decode cJ13_bitCount_95d88 43 = .ok (.bipush 16, 2) := by decide +kernel
theorem dJ13_bitCount_95d88_45 : decode cJ13_bitCount_95d88 45 = .ok (.lushr, 1) := by decide +kernel
theorem dJ13_bitCount_95d88_46 : decode cJ13_bitCount_95d88 46 = .ok (.ladd, 1) := by decide +kernel
theorem dJ13_bitCount_95d88_47 : decode cJ13_bitCount_95d88 47 = .ok (.lstore_n 0, 1) := by decide +kernel
theorem dJ13_bitCount_95d88_48 : decode cJ13_bitCount_95d88 48 = .ok (.lload_n 0, 1) := by decide +kernel
theorem dJ13_bitCount_95d88_49 : decode cJ13_bitCount_95d88 49 = .ok (.lload_n 0, 1) := by decide +kernel
theorem dJ13_bitCount_95d88_50 : decode cJ13_bitCount_95d88 50 = .ok (.bipush 32, 2) := by decide +kernel
theorem dJ13_bitCount_95d88_52 : decode cJ13_bitCount_95d88 52 = .ok (.lushr, 1) := by decide +kernel
theorem dJ13_bitCount_95d88_53 : decode cJ13_bitCount_95d88 53 = .ok (.ladd, 1) := by decide +kernel
theorem dJ13_bitCount_95d88_54 : decode cJ13_bitCount_95d88 54 = .ok (.lstore_n 0, 1) := by decide +kernel
theorem dJ13_bitCount_95d88_55 : decode cJ13_bitCount_95d88 55 = .ok (.lload_n 0, 1) := by decide +kernel
theorem dJ13_bitCount_95d88_56 : decode cJ13_bitCount_95d88 56 = .ok (.l2i, 1) := by decide +kernel
theorem dJ13_bitCount_95d88_57 : decode cJ13_bitCount_95d88 57 = .ok (.bipush 127, 2) := by decide +kernel
theorem dJ13_bitCount_95d88_59 : decode cJ13_bitCount_95d88 59 = .ok (.iand, 1) := by decide +kernel
theorem dJ13_bitCount_95d88_60 : decode cJ13_bitCount_95d88 60 = .ok (.ireturn, 1) := by decide +kernel
theorem dJ9_max_7cf53_0 : decode cJ9_max_7cf53 0 = .ok (.iload_n 0, 1) := by decide +kernel
theorem dJ9_max_7cf53_1 : decode cJ9_max_7cf53 1 = .ok (.iload_n 1, 1) := by decide +kernel
theorem dJ9_max_7cf53_2 : decode cJ9_max_7cf53 2 = .ok (.if_icmp .lt 7, 3) := by decide +kernel
theorem dJ9_max_7cf53_5 : decode cJ9_max_7cf53 5 = .ok (.iload_n 0, 1) := by decide +kernel
theorem dJ9_max_7cf53_6 : decode cJ9_max_7cf53 6 = .ok (.goto 4, 3) := by decide +kernel
theorem dJ9_max_7cf53_9 : decode cJ9_max_7cf53 9 = .ok (.iload_n 1, 1) := by decide +kernel
theorem dJ9_max_7cf53_10 : decode cJ9_max_7cf53 10 = .ok (.ireturn, 1) := by decide +kernel
theorem dJ9_min_7cf53_0 : decode cJ9_min_7cf53 0 = .ok (.iload_n 0, 1) := by decide +kernel
theorem dJ9_min_7cf53_1 : decode cJ9_min_7cf53 1 = .ok (.iload_n 1, 1) := by decide +kernel
theorem dJ9_min_7cf53_2 : decode cJ9_min_7cf53 2 = .ok (.if_icmp .gt 7, 3) := by decide +kernel
theorem dJ9_min_7cf53_5 : decode cJ9_min_7cf53 5 = .ok (.iload_n 0, 1) := by decide +kernel
theorem dJ9_min_7cf53_6 : decode cJ9_min_7cf53 6 = .ok (.goto 4, 3) := by decide +kernel
theorem dJ9_min_7cf53_9 : decode cJ9_min_7cf53 9 = .ok (.iload_n 1, 1) := by decide +kernel
theorem dJ9_min_7cf53_10 : decode cJ9_min_7cf53 10 = .ok (.ireturn, 1) := by decide +kernel
theorem dJxa1e45_init_da8c8_0 : decode cJxa1e45_init_da8c8 0 = .ok (.aload_n 0, 1) := by decide +kernel
theorem dJxa1e45_init_da8c8_1 : decode cJxa1e45_init_da8c8 1 = .ok (.invokespecial 1, 3) := by decide +kernel
theorem dJxa1e45_init_da8c8_4 : decode cJxa1e45_init_da8c8 4 = .ok (.return_, 1) := by decide +kernel
set_option maxRecDepth 20000 in
theorem ggJxc12de_init_da8c8_Jxa1e45_init_da8c8 : GoodIn wsJxc12de_init_da8c8 wsJxa1e45_init_da8c8 := goodIn_r _ [5, 6, 7, 8] (by decide +kernel) (by decide +kernel)
set_option maxRecDepth 20000 in
theorem gJxc12de_init_da8c8_Jxa1e45_init_da8c8 : GoodIn wsJxc12de_init_da8c8 (wsJxa1e45_init_da8c8) := ggJxc12de_init_da8c8_Jxa1e45_init_da8c8
theorem dJxc12de_init_da8c8_0 : decode cJxc12de_init_da8c8 0 = .ok (.aload_n 0, 1) := by decide +kernel
theorem dJxc12de_init_da8c8_1 : decode cJxc12de_init_da8c8 1 = .ok (.invokespecial 1, 3) := by decide +kernel
theorem dJxc12de_init_da8c8_4 : decode cJxc12de_init_da8c8 4 = .ok (.aload_n 0, 1) := by decide +kernel
theorem dJxc12de_init_da8c8_5 : decode cJxc12de_init_da8c8 5 = .ok (.iconst 0, 1) := by decide +kernel
theorem dJxc12de_init_da8c8_6 : decode cJxc12de_init_da8c8 6 = .ok (.putfield 7, 3) := by decide +kernel
theorem dJxc12de_init_da8c8_9 : decode cJxc12de_init_da8c8 9 = .ok (.return_, 1) := by decide +kernel
set_option maxRecDepth 20000 in
theorem ggJx4a65c_init_da8c8_Jxc12de_init_da8c8 : GoodIn wsJx4a65c_init_da8c8 wsJxc12de_init_da8c8 := goodIn_r _ [6, 7, 8, 9, 10, 11, 12, 13, 14, 15, 16, 17] (by decide +kernel) (by decide +kernel)
set_option maxRecDepth 20000 in
theorem gJx4a65c_init_da8c8_Jxc12de_init_da8c8 : GoodIn wsJx4a65c_init_da8c8 (wsJxc12de_init_da8c8) := ggJx4a65c_init_da8c8_Jxc12de_init_da8c8
theorem dJx4a65c_init_da8c8_0 : decode cJx4a65c_init_da8c8 0 = .ok (.aload_n 0, 1) := by decide +kernel
theorem dJx4a65c_init_da8c8_1 : decode cJx4a65c_init_da8c8 1 = .ok (.invokespecial 1, 3) := by decide +kernel
theorem dJx4a65c_init_da8c8_4 : decode cJx4a65c_init_da8c8 4 = .ok (.aload_n 0, 1) := by decide +kernel
theorem dJx4a65c_init_da8c8_5 : decode cJx4a65c_init_da8c8 5 = .ok (.getstatic 39, 3) := by decide +kernel
theorem dJx4a65c_init_da8c8_8 : decode cJx4a65c_init_da8c8 8 = .ok (.putfield 9, 3) := by decide +kernel
theorem dJx4a65c_init_da8c8_11 : decode cJx4a65c_init_da8c8 11 = .ok (.return_, 1) := by decide +kernel
set_option maxRecDepth 20000 in
theorem ggJx4a65c_grow_92f84_J8_newLength_cabcc : GoodIn wsJx4a65c_grow_92f84 wsJ8_newLength_cabcc := goodIn_r _ [11, 12, 4, 5, 6, 13, 14, 15, 10, 16] (by decide +kernel) (by decide +kernel)
set_option maxRecDepth 20000 in
theorem gJx4a65c_grow_92f84_J8_newLength_cabcc : GoodIn wsJx4a65c_grow_92f84 (va_wsS RJx4a65c 73 yJ8_newLength_cabcc wsJ8_newLength_cabcc) := goodIn_app (goodIn_of _ (by decide +kernel)) ggJx4a65c_grow_92f84_J8_newLength_cabcc
set_option maxRecDepth 20000 in
theorem ggJx4a65c_grow_92f84_J7_copyOf_1904c : GoodIn wsJx4a65c_grow_92f84 wsJ7_copyOf_1904c := goodIn_r _ [20, 21, 22, 23, 24, 25, 26, 19, 27, 28, 29, 30, 31, 5, 32, 33, 34, 35, 36] (by decide +kernel) (by decide +kernel)
set_option maxRecDepth 20000 in
theorem gJx4a65c_grow_92f84_J7_copyOf_1904c : GoodIn wsJx4a65c_grow_92f84 (va_wsS RJx4a65c 66 yJ7_copyOf_1904c wsJ7_copyOf_1904c) := goodIn_app (goodIn_of _ (by decide +kernel)) ggJx4a65c_grow_92f84_J7_copyOf_1904c
theorem dJx4a65c_grow_92f84_0 : decode cJx4a65c_grow_92f84 0 = .ok (.aload_n 0, 1) := by decide +kernel
theorem dJx4a65c_grow_92f84_1 : decode cJx4a65c_grow_92f84 1 = .ok (.getfield 9, 3) := by decide +kernel
theorem dJx4a65c_grow_92f84_4 : decode cJx4a65c_grow_92f84 4 = .ok (.arraylength, 1) := by decide +kernel
theorem dJx4a65c_grow_92f84_5 : decode cJx4a65c_grow_92f84 5 = .ok (.istore_n 2, 1) := by decide +kernel
theorem dJx4a65c_grow_92f84_6 : decode cJx4a65c_grow_92f84 6 = .ok (.iload_n 2, 1) := by decide +kernel
theorem dJx4a65c_grow_92f84_7 : decode cJx4a65c_grow_92f84 7 = .ok (.ifCond .gt 13, 3) := by decide +kernel
theorem dJx4a65c_grow_92f84_10 : decode cJx4a65c_grow_92f84 10 = .ok (.aload_n 0, 1) := by decide +kernel
theorem dJx4a65c_grow_92f84_11 : decode cJx4a65c_grow_92f84 11 = .ok (.getfield 9, 3) := by decide +kernel
theorem dJx4a65c_grow_92f84_14 : decode cJx4a65c_grow_92f84 14 = .ok (.getstatic 39, 3) := by decide +kernel
theorem dJx4a65c_grow_92f84_17 : decode cJx4a65c_grow_92f84 17 = .ok (.if_acmp .eq 28, 3) := by decide +kernel
theorem dJx4a65c_grow_92f84_20 : decode cJx4a65c_grow_92f84 20 = .ok (.iload_n 2, 1) := by decide +kernel
theorem dJx4a65c_grow_92f84_21 : decode cJx4a65c_grow_92f84 21 = .ok (.iload_n 1, 1) := by decide +kernel
theorem dJx4a65c_grow_92f84_22 : decode cJx4a65c_grow_92f84 22 = .ok (.iload_n 2, 1) := by decide +kernel
theorem dJx4a65c_grow_92f84_23 : decode cJx4a65c_grow_92f84 23 = .ok (.isub, 1) := by decide +kernel
theorem dJx4a65c_grow_92f84_24 : decode cJx4a65c_grow_92f84 24 = .ok (.iload_n 2, 1) := by decide +kernel
theorem dJx4a65c_grow_92f84_25 : decode cJx4a65c_grow_92f84 25 = .ok (.iconst 1, 1) := by decide +kernel
theorem dJx4a65c_grow_92f84_26 : decode cJx4a65c_grow_92f84 26 = .ok (.ishr, 1) := by decide +kernel
theorem dJx4a65c_grow_92f84_27 : decode cJx4a65c_grow_92f84 27 = .ok (.invokestatic 73, 3) := by decide +kernel
theorem dJx4a65c_grow_92f84_30 : decode cJx4a65c_grow_92f84 30 = .ok (.istore_n 3, 1) := by decide +kernel
theorem dJx4a65c_grow_92f84_31 : decode cJx4a65c_grow_92f84 31 = .ok (.aload_n 0, 1) := by decide +kernel
theorem dJx4a65c_grow_92f84_32 : decode cJx4a65c_grow_92f84 32 = .ok (.aload_n 0, 1) := by decide +kernel
theorem dJx4a65c_grow_92f84_33 : decode cJx4a65c_grow_92f84 33 = .ok (.getfield 9, 3) := by decide +kernel
theorem dJx4a65c_grow_92f84_36 : decode cJx4a65c_grow_92f84 36 = .ok (.iload_n 3, 1) := by decide +kernel
theorem dJx4a65c_grow_92f84_37 : decode cJx4a65c_grow_92f84 37 = .ok (.invokestatic 66, 3) := by decide +kernel
theorem dJx4a65c_grow_92f84_40 : decode cJx4a65c_grow_92f84 40 = .ok (.dup_x1, 1) := by decide +kernel
theorem dJx4a65c_grow_92f84_41 : decode cJx4a65c_grow_92f84 41 = .ok (.putfield 9, 3) := by decide +kernel
theorem dJx4a65c_grow_92f84_44 : decode cJx4a65c_grow_92f84 44 = .ok (.areturn, 1) := by decide +kernel
theorem dJx4a65c_grow_92f84_45 : decode cJx4a65c_grow_92f84 45 = .ok (.aload_n 0, 1) := by decide +kernel
theorem dJx4a65c_grow_92f84_46 : decode cJx4a65c_grow_92f84 46 = .ok (.bipush 10, 2) := by decide +kernel
theorem dJx4a65c_grow_92f84_48 : decode cJx4a65c_grow_92f84 48 = .ok (.iload_n 1, 1) := by decide +kernel
theorem dJx4a65c_grow_92f84_49 : decode cJx4a65c_grow_92f84 49 = .ok (.invokestatic 79, 3) := by decide +kernel
theorem dJx4a65c_grow_92f84_52 : decode cJx4a65c_grow_92f84 52 = .ok (.anewarray 7, 3) := by decide +kernel
theorem dJx4a65c_grow_92f84_55 : decode cJx4a65c_grow_92f84 55 = .ok (.dup_x1, 1) := by decide +kernel
theorem dJx4a65c_grow_92f84_56 : decode cJx4a65c_grow_92f84 56 = .ok (.putfield 9, 3) := by decide +kernel
theorem dJx4a65c_grow_92f84_59 : decode cJx4a65c_grow_92f84 59 = .ok (.areturn, 1) := by decide +kernel
set_option maxRecDepth 20000 in
theorem ggJx4a65c_grow_d5877_Jx4a65c_grow_92f84 : GoodIn wsJx4a65c_grow_d5877 wsJx4a65c_grow_92f84 := goodIn_r _ [6, 7, 8, 9, 10, 11, 12, 13, 14, 15, 16, 17, 18, 19, 20, 21, 22, 23, 24, 25, 26, 27, 28, 29, 30, 31, 32, 33, 34, 35, 36, 37, 38, 39, 40, 41, 42, 43, 44, 45] (by decide +kernel) (by decide +kernel)
set_option maxRecDepth 20000 in
theorem gJx4a65c_grow_d5877_Jx4a65c_grow_92f84 : GoodIn wsJx4a65c_grow_d5877 (wsV RJx4a65c 69 RJx4a65c yJx4a65c_grow_92f84 wsJx4a65c_grow_92f84) := goodIn_app (goodIn_of _ (by decide +kernel)) ggJx4a65c_grow_d5877_Jx4a65c_grow_92f84
theorem dJx4a65c_grow_d5877_0 : decode cJx4a65c_grow_d5877 0 = .ok (.aload_n 0, 1) := by decide +kernel
theorem dJx4a65c_grow_d5877_1 : decode cJx4a65c_grow_d5877 1 = .ok (.aload_n 0, 1) := by decide +kernel
theorem dJx4a65c_grow_d5877_2 : decode cJx4a65c_grow_d5877 2 = .ok (.getfield 48, 3) := by decide +kernel
theorem dJx4a65c_grow_d5877_5 : decode cJx4a65c_grow_d5877 5 = .ok (.iconst 1, 1) := by decide +kernel
theorem dJx4a65c_grow_d5877_6 : decode cJx4a65c_grow_d5877 6 = .ok (.iadd, 1) := by decide +kernel
theorem dJx4a65c_grow_d5877_7 : decode cJx4a65c_grow_d5877 7 = .ok (.invokevirtual 69, 3) := by decide +kernel
theorem dJx4a65c_grow_d5877_10 : decode cJx4a65c_grow_d5877 10 = .ok (.areturn, 1) := by decide +kernel
theorem dJx4a65c_size_8abf5_0 : decode cJx4a65c_size_8abf5 0 = .ok (.aload_n 0, 1) := by decide +kernel
theorem dJx4a65c_size_8abf5_1 : decode cJx4a65c_size_8abf5 1 = .ok (.getfield 48, 3) := by decide +kernel
theorem dJx4a65c_size_8abf5_4 : decode cJx4a65c_size_8abf5 4 = .ok (.ireturn, 1) := by decide +kernel
theorem dJx4a65c_elementData_915e3_0 : decode cJx4a65c_elementData_915e3 0 = .ok (.aload_n 0, 1) := by decide +kernel
theorem dJx4a65c_elementData_915e3_1 : decode cJx4a65c_elementData_915e3 1 = .ok (.getfield 9, 3) := by decide +kernel
theorem dJx4a65c_elementData_915e3_4 : decode cJx4a65c_elementData_915e3 4 = .ok (.iload_n 1, 1) := by decide +kernel
theorem dJx4a65c_elementData_915e3_5 : decode cJx4a65c_elementData_915e3 5 = .ok (.aaload, 1) := by decide +kernel
theorem dJx4a65c_elementData_915e3_6 : decode cJx4a65c_elementData_915e3 6 = .ok (.areturn, 1) := by decide +kernel
set_option maxRecDepth 20000 in
theorem ggJx4a65c_get_915e3_J15_checkIndex_7cf53 : GoodIn wsJx4a65c_get_915e3 wsJ15_checkIndex_7cf53 := goodIn_r _ [5, 6, 7, 8, 9] (by decide +kernel) (by decide +kernel)
set_option maxRecDepth 20000 in
theorem gJx4a65c_get_915e3_J15_checkIndex_7cf53 : GoodIn wsJx4a65c_get_915e3 (va_wsS RJx4a65c 118 yJ15_checkIndex_7cf53 wsJ15_checkIndex_7cf53) := goodIn_app (goodIn_of _ (by decide +kernel)) ggJx4a65c_get_915e3_J15_checkIndex_7cf53
set_option maxRecDepth 20000 in
theorem ggJx4a65c_get_915e3_Jx4a65c_elementData_915e3 : GoodIn wsJx4a65c_get_915e3 wsJx4a65c_elementData_915e3 := goodIn_r _ [14, 15, 16, 17, 18] (by decide +kernel) (by decide +kernel)
set_option maxRecDepth 20000 in
theorem gJx4a65c_get_915e3_Jx4a65c_elementData_915e3 : GoodIn wsJx4a65c_get_915e3 (wsV RJx4a65c 123 RJx4a65c yJx4a65c_elementData_915e3 wsJx4a65c_elementData_915e3) := goodIn_app (goodIn_of _ (by decide +kernel)) ggJx4a65c_get_915e3_Jx4a65c_elementData_915e3
theorem dJx4a65c_get_915e3_0 : decode cJx4a65c_get_915e3 0 = .ok (.iload_n 1, 1) := by decide +kernel
theorem dJx4a65c_get_915e3_1 : decode cJx4a65c_get_915e3 1 = .ok (.aload_n 0, 1) := by decide +kernel
theorem dJx4a65c_get_915e3_2 : decode cJx4a65c_get_915e3 2 = .ok (.getfield 48, 3) := by decide +kernel
theorem dJx4a65c_get_915e3_5 : decode cJx4a65c_get_915e3 5 = .ok (.invokestatic 118, 3) := by decide +kernel
theorem dJx4a65c_get_915e3_8 : decode cJx4a65c_get_915e3 8 = .ok (.pop, 1) := by decide +kernel
theorem dJx4a65c_get_915e3_9 : decode cJx4a65c_get_915e3 9 = .ok (.aload_n 0, 1) := by decide +kernel
theorem dJx4a65c_get_915e3_10 : decode cJx4a65c_get_915e3 10 = .ok (.iload_n 1, 1) := by decide +kernel
theorem dJx4a65c_get_915e3_11 : decode cJx4a65c_get_915e3 11 = .ok (.invokevirtual 123, 3) := by decide +kernel
theorem dJx4a65c_get_915e3_14 : decode cJx4a65c_get_915e3 14 = .ok (.areturn, 1) := by decide +kernel
set_option maxRecDepth 20000 in
theorem ggJx4a65c_add_72be8_Jx4a65c_grow_d5877 : GoodIn wsJx4a65c_add_72be8 wsJx4a65c_grow_d5877 := goodIn_r _ [6, 1, 7, 8, 9, 5, 10, 11, 12, 13, 14, 15, 16, 17, 18, 19, 20, 21, 22, 23, 24, 25, 26, 27, 28, 29, 30, 31, 32, 33, 34, 35, 36, 37, 38, 39, 40, 41, 42, 43, 44, 45, 46, 47, 48, 49] (by decide +kernel) (by decide +kernel)
set_option maxRecDepth 20000 in
theorem gJx4a65c_add_72be8_Jx4a65c_grow_d5877 : GoodIn wsJx4a65c_add_72be8 (wsV RJx4a65c 129 RJx4a65c yJx4a65c_grow_d5877 wsJx4a65c_grow_d5877) := goodIn_app (goodIn_of _ (by decide +kernel)) ggJx4a65c_add_72be8_Jx4a65c_grow_d5877
theorem dJx4a65c_add_72be8_0 : decode cJx4a65c_add_72be8 0 = .ok (.iload_n 3, 1) := by decide +kernel
theorem dJx4a65c_add_72be8_1 : decode cJx4a65c_add_72be8 1 = .ok (.aload_n 2, 1) := by decide +kernel
theorem dJx4a65c_add_72be8_2 : decode cJx4a65c_add_72be8 2 = .ok (.arraylength, 1) := by decide +kernel
theorem dJx4a65c_add_72be8_3 : decode cJx4a65c_add_72be8 3 = .ok (.if_icmp .ne 8, 3) := by decide +kernel
theorem dJx4a65c_add_72be8_6 : decode cJx4a65c_add_72be8 6 = .ok (.aload_n 0, 1) := by decide +kernel
theorem dJx4a65c_add_72be8_7 : decode cJx4a65c_add_72be8 7 = .ok (.invokevirtual 129, 3) := by decide +kernel
theorem dJx4a65c_add_72be8_10 : decode cJx4a65c_add_72be8 10 = .ok (.astore_n 2, 1) := by decide +kernel
theorem dJx4a65c_add_72be8_11 : decode cJx4a65c_add_72be8 11 = .ok (.aload_n 2, 1) := by decide +kernel
theorem dJx4a65c_add_72be8_12 : decode cJx4a65c_add_72be8 12 = .ok (.iload_n 3, 1) := by decide +kernel
theorem dJx4a65c_add_72be8_13 : decode cJx4a65c_add_72be8 13 = .ok (.aload_n 1, 1) := by decide +kernel
theorem dJx4a65c_add_72be8_14 : decode cJx4a65c_add_72be8 14 = .ok (.aastore, 1) := by decide +kernel
theorem dJx4a65c_add_72be8_15 : decode cJx4a65c_add_72be8 15 = .ok (.aload_n 0, 1) := by decide +kernel
theorem dJx4a65c_add_72be8_16 : decode cJx4a65c_add_72be8 16 = .ok (.iload_n 3, 1) := by decide +kernel
theorem dJx4a65c_add_72be8_17 : decode cJx4a65c_add_72be8 17 = .ok (.iconst 1, 1) := by decide +kernel
theorem dJx4a65c_add_72be8_18 : decode cJx4a65c_add_72be8 18 = .ok (.iadd, 1) := by decide +kernel
theorem dJx4a65c_add_72be8_19 : decode cJx4a65c_add_72be8 19 = .ok (.putfield 48, 3) := by decide +kernel
theorem dJx4a65c_add_72be8_22 : decode cJx4a65c_add_72be8 22 = .ok (.return_, 1) := by decide +kernel
set_option maxRecDepth 20000 in
theorem ggJx4a65c_add_9ea2d_Jx4a65c_add_72be8 : GoodIn wsJx4a65c_add_9ea2d wsJx4a65c_add_72be8 := goodIn_r _ [9, 4, 10, 11, 12, 8, 13, 14, 15, 16, 17, 3, 18, 19, 20, 21, 22, 23, 24, 25, 26, 27, 28, 29, 30, 31, 32, 33, 34, 35, 36, 37, 38, 39, 40, 41, 42, 43, 44, 45, 46, 47, 48, 49, 50, 51, 52, 53, 54, 55] (by decide +kernel) (by decide +kernel)
set_option maxRecDepth 20000 in
theorem gJx4a65c_add_9ea2d_Jx4a65c_add_72be8 : GoodIn wsJx4a65c_add_9ea2d (wsV RJx4a65c 131 RJx4a65c yJx4a65c_add_72be8 wsJx4a65c_add_72be8) := goodIn_app (goodIn_of _ (by decide +kernel)) ggJx4a65c_add_9ea2d_Jx4a65c_add_72be8
theorem dJx4a65c_add_9ea2d_0 : decode cJx4a65c_add_9ea2d 0 = .ok (.aload_n 0, 1) := by decide +kernel
theorem dJx4a65c_add_9ea2d_1 : decode cJx4a65c_add_9ea2d 1 = .ok (.dup, 1) := by decide +kernel
theorem dJx4a65c_add_9ea2d_2 : decode cJx4a65c_add_9ea2d 2 = .ok (.getfield 63, 3) := by decide +kernel
theorem dJx4a65c_add_9ea2d_5 : decode cJx4a65c_add_9ea2d 5 = .ok (.iconst 1, 1) := by decide +kernel
theorem dJx4a65c_add_9ea2d_6 : decode cJx4a65c_add_9ea2d 6 = .ok (.iadd, 1) := by decide +kernel
theorem dJx4a65c_add_9ea2d_7 : decode cJx4a65c_add_9ea2d 7 = .ok (.putfield 63, 3) := by decide +kernel
theorem dJx4a65c_add_9ea2d_10 : decode cJx4a65c_add_9ea2d 10 = .ok (.aload_n 0, 1) := by decide +kernel
theorem dJx4a65c_add_9ea2d_11 : decode cJx4a65c_add_9ea2d 11 = .ok (.aload_n 1, 1) := by decide +kernel
theorem dJx4a65c_add_9ea2d_12 : decode cJx4a65c_add_9ea2d 12 = .ok (.aload_n 0, 1) := by decide +kernel
theorem dJx4a65c_add_9ea2d_13 : decode cJx4a65c_add_9ea2d 13 = .ok (.getfield 9, 3) := by decide +kernel
theorem dJx4a65c_add_9ea2d_16 : decode cJx4a65c_add_9ea2d 16 = .ok (.aload_n 0, 1) := by decide +kernel
theorem dJx4a65c_add_9ea2d_17 : decode cJx4a65c_add_9ea2d 17 = .ok (.getfield 48, 3) := by decide +kernel
theorem dJx4a65c_add_9ea2d_20 : decode cJx4a65c_add_9ea2d 20 = .ok (.invokevirtual 131, 3) := by decide +kernel
theorem dJx4a65c_add_9ea2d_23 : decode cJx4a65c_add_9ea2d 23 = .ok (.iconst 1, 1) := by decide +kernel
theorem dJx4a65c_add_9ea2d_24 : decode cJx4a65c_add_9ea2d 24 = .ok (.ireturn, 1) := by decide +kernel
set_option maxRecDepth 20000 in
theorem ggJx4a65c_remove_915e3_J15_checkIndex_7cf53 : GoodIn wsJx4a65c_remove_915e3 wsJ15_checkIndex_7cf53 := goodIn_r _ [6, 7, 8, 9, 10] (by decide +kernel) (by decide +kernel)
set_option maxRecDepth 20000 in
theorem gJx4a65c_remove_915e3_J15_checkIndex_7cf53 : GoodIn wsJx4a65c_remove_915e3 (va_wsS RJx4a65c 118 yJ15_checkIndex_7cf53 wsJ15_checkIndex_7cf53) := goodIn_app (goodIn_of _ (by decide +kernel)) ggJx4a65c_remove_915e3_J15_checkIndex_7cf53
set_option maxRecDepth 20000 in
theorem ggJx4a65c_remove_915e3_Jx4a65c_fastRemove_b59b0 : GoodIn wsJx4a65c_remove_915e3 wsJx4a65c_fastRemove_b59b0 := goodIn_r _ [15, 16, 17, 1, 18, 19, 20, 21, 22, 23, 24] (by decide +kernel) (by decide +kernel)
set_option maxRecDepth 20000 in
theorem gJx4a65c_remove_915e3_Jx4a65c_fastRemove_b59b0 : GoodIn wsJx4a65c_remove_915e3 (wsV RJx4a65c 144 RJx4a65c yJx4a65c_fastRemove_b59b0 wsJx4a65c_fastRemove_b59b0) := goodIn_app (goodIn_of _ (by decide +kernel)) ggJx4a65c_remove_915e3_Jx4a65c_fastRemove_b59b0
theorem dJx4a65c_remove_915e3_0 : decode cJx4a65c_remove_915e3 0 = .ok (.iload_n 1, 1) := by decide +kernel
theorem dJx4a65c_remove_915e3_1 : decode cJx4a65c_remove_915e3 1 = .ok (.aload_n 0, 1) := by decide +kernel
theorem dJx4a65c_remove_915e3_2 : decode cJx4a65c_remove_915e3 2 = .ok (.getfield 48, 3) := by decide +kernel
theorem dJx4a65c_remove_915e3_5 : decode cJx4a65c_remove_915e3 5 = .ok (.invokestatic 118, 3) := by decide +kernel
theorem dJx4a65c_remove_915e3_8 : decode cJx4a65c_remove_915e3 8 = .ok (.pop, 1) := by decide +kernel
theorem dJx4a65c_remove_915e3_9 : decode cJx4a65c_remove_915e3 9 = .ok (.aload_n 0, 1) := by decide +kernel
theorem dJx4a65c_remove_915e3_10 : decode cJx4a65c_remove_915e3 10 = .ok (.getfield 9, 3) := by decide +kernel
theorem dJx4a65c_remove_915e3_13 : decode cJx4a65c_remove_915e3 13 = .ok (.astore_n 2, 1) := by decide +kernel
theorem dJx4a65c_remove_915e3_14 : decode cJx4a65c_remove_915e3 14 = .ok (.aload_n 2, 1) := by decide +kernel
theorem dJx4a65c_remove_915e3_15 : decode cJx4a65c_remove_915e3 15 = .ok (.iload_n 1, 1) := by decide +kernel
theorem dJx4a65c_remove_915e3_16 : decode cJx4a65c_remove_915e3 16 = .ok (.aaload, 1) := by decide +kernel
theorem dJx4a65c_remove_915e3_17 : decode cJx4a65c_remove_915e3 17 = .ok (.astore_n 3, 1) := by decide +kernel
theorem dJx4a65c_remove_915e3_18 : decode cJx4a65c_remove_915e3 18 = .ok (.aload_n 0, 1) := by decide +kernel
theorem dJx4a65c_remove_915e3_19 : decode cJx4a65c_remove_915e3 19 = .ok (.aload_n 2, 1) := by decide +kernel
theorem dJx4a65c_remove_915e3_20 : decode cJx4a65c_remove_915e3 20 = .ok (.iload_n 1, 1) := by decide +kernel
theorem dJx4a65c_remove_915e3_21 : decode cJx4a65c_remove_915e3 21 = .ok (.invokevirtual 144, 3) := by decide +kernel
theorem dJx4a65c_remove_915e3_24 : decode cJx4a65c_remove_915e3 24 = .ok (.aload_n 3, 1) := by decide +kernel
theorem dJx4a65c_remove_915e3_25 : decode cJx4a65c_remove_915e3 25 = .ok (.areturn, 1) := by decide +kernel
theorem dJx4a65c_fastRemove_b59b0_0 : decode cJx4a65c_fastRemove_b59b0 0 = .ok (.aload_n 0, 1) := by decide +kernel
theorem dJx4a65c_fastRemove_b59b0_1 : decode cJx4a65c_fastRemove_b59b0 1 = .ok (.dup, 1) := by decide +kernel
theorem dJx4a65c_fastRemove_b59b0_2 : decode cJx4a65c_fastRemove_b59b0 2 = .ok (.getfield 63, 3) := by decide +kernel
theorem dJx4a65c_fastRemove_b59b0_5 : decode cJx4a65c_fastRemove_b59b0 5 = .ok (.iconst 1, 1) := by decide +kernel
theorem dJx4a65c_fastRemove_b59b0_6 : decode cJx4a65c_fastRemove_b59b0 6 = .ok (.iadd, 1) := by decide +kernel
theorem dJx4a65c_fastRemove_b59b0_7 : decode cJx4a65c_fastRemove_b59b0 7 = .ok (.putfield 63, 3) := by decide +kernel
theorem dJx4a65c_fastRemove_b59b0_10 : decode cJx4a65c_fastRemove_b59b0 10 = .ok (.aload_n 0, 1) := by decide +kernel
theorem dJx4a65c_fastRemove_b59b0_11 : decode cJx4a65c_fastRemove_b59b0 11 = .ok (.getfield 48, 3) := by decide +kernel
theorem dJx4a65c_fastRemove_b59b0_14 : decode cJx4a65c_fastRemove_b59b0 14 = .ok (.iconst 1, 1) := by decide +kernel
theorem dJx4a65c_fastRemove_b59b0_15 : decode cJx4a65c_fastRemove_b59b0 15 = .ok (.isub, 1) := by decide +kernel
theorem dJx4a65c_fastRemove_b59b0_16 : decode cJx4a65c_fastRemove_b59b0 16 = .ok (.dup, 1) := by decide +kernel
theorem dJx4a65c_fastRemove_b59b0_17 : decode cJx4a65c_fastRemove_b59b0 17 = .ok (.istore_n 3, 1) := by decide +kernel
theorem dJx4a65c_fastRemove_b59b0_18 : decode cJx4a65c_fastRemove_b59b0 18 = .ok (.iload_n 2, 1) := by decide +kernel
theorem dJx4a65c_fastRemove_b59b0_19 : decode cJx4a65c_fastRemove_b59b0 19 = .ok (.if_icmp .le 15, 3) := by decide +kernel
theorem dJx4a65c_fastRemove_b59b0_22 : decode cJx4a65c_fastRemove_b59b0 22 = .ok (.aload_n 1, 1) := by decide +kernel
theorem dJx4a65c_fastRemove_b59b0_23 : decode cJx4a65c_fastRemove_b59b0 23 = .ok (.iload_n 2, 1) := by decide +kernel
theorem dJx4a65c_fastRemove_b59b0_24 : decode cJx4a65c_fastRemove_b59b0 24 = .ok (.iconst 1, 1) := by decide +kernel
theorem dJx4a65c_fastRemove_b59b0_25 : decode cJx4a65c_fastRemove_b59b0 25 = .ok (.iadd, 1) := by decide +kernel
theorem dJx4a65c_fastRemove_b59b0_26 : decode cJx4a65c_fastRemove_b59b0 26 = .ok (.aload_n 1, 1) := by decide +kernel
theorem dJx4a65c_fastRemove_b59b0_27 : decode cJx4a65c_fastRemove_b59b0 27 = .ok (.iload_n 2, 1) := by decide +kernel
theorem dJx4a65c_fastRemove_b59b0_28 : decode cJx4a65c_fastRemove_b59b0 28 = .ok (.iload_n 3, 1) := by decide +kernel
theorem dJx4a65c_fastRemove_b59b0_29 : decode cJx4a65c_fastRemove_b59b0 29 = .ok (.iload_n 2, 1) := by decide +kernel
theorem dJx4a65c_fastRemove_b59b0_30 : decode cJx4a65c_fastRemove_b59b0 30 = .ok (.isub, 1) := by decide +kernel
theorem dJx4a65c_fastRemove_b59b0_31 : decode cJx4a65c_fastRemove_b59b0 31 = .ok (.invokestatic 112, 3) := by decide +kernel
theorem dJx4a65c_fastRemove_b59b0_34 : decode cJx4a65c_fastRemove_b59b0 34 = .ok (.aload_n 1, 1) := by decide +kernel
theorem dJx4a65c_fastRemove_b59b0_35 : decode cJx4a65c_fastRemove_b59b0 35 = .ok (.aload_n 0, 1) := by decide +kernel
theorem dJx4a65c_fastRemove_b59b0_36 : decode cJx4a65c_fastRemove_b59b0 36 = .ok (.iload_n 3, 1) := by decide +kernel
theorem dJx4a65c_fastRemove_b59b0_37 : decode cJx4a65c_fastRemove_b59b0 37 = .ok (.dup_x1, 1) := by decide +kernel
theorem dJx4a65c_fastRemove_b59b0_38 : decode cJx4a65c_fastRemove_b59b0 38 = .ok (.putfield 48, 3) := by decide +kernel
theorem dJx4a65c_fastRemove_b59b0_41 : decode cJx4a65c_fastRemove_b59b0 41 = .ok (.aconst_null, 1) := by decide +kernel
theorem dJx4a65c_fastRemove_b59b0_42 : decode cJx4a65c_fastRemove_b59b0 42 = .ok (.aastore, 1) := by decide +kernel
theorem dJx4a65c_fastRemove_b59b0_43 : decode cJx4a65c_fastRemove_b59b0 43 = .ok (.return_, 1) := by decide +kernel
theorem dJx4a65c_clear_da8c8_0 : decode cJx4a65c_clear_da8c8 0 = .ok (.aload_n 0, 1) := by decide +kernel
theorem dJx4a65c_clear_da8c8_1 : decode cJx4a65c_clear_da8c8 1 = .ok (.dup, 1) := by decide +kernel
theorem dJx4a65c_clear_da8c8_2 : decode cJx4a65c_clear_da8c8 2 = .ok (.getfield 63, 3) := by decide +kernel
theorem dJx4a65c_clear_da8c8_5 : decode cJx4a65c_clear_da8c8 5 = .ok (.iconst 1, 1) := by decide +kernel
theorem dJx4a65c_clear_da8c8_6 : decode cJx4a65c_clear_da8c8 6 = .ok (.iadd, 1) := by decide +kernel
theorem dJx4a65c_clear_da8c8_7 : decode cJx4a65c_clear_da8c8 7 = .ok (.putfield 63, 3) := by decide +kernel
theorem dJx4a65c_clear_da8c8_10 : decode cJx4a65c_clear_da8c8 10 = .ok (.aload_n 0, 1) := by decide +kernel
theorem dJx4a65c_clear_da8c8_11 : decode cJx4a65c_clear_da8c8 11 = .ok (.getfield 9, 3) := by decide +kernel
theorem dJx4a65c_clear_da8c8_14 : decode cJx4a65c_clear_da8c8 14 = .ok (.astore_n 1, 1) := by decide +kernel
theorem dJx4a65c_clear_da8c8_15 : decode cJx4a65c_clear_da8c8 15 = .ok (.aload_n 0, 1) := by decide +kernel
theorem dJx4a65c_clear_da8c8_16 : decode cJx4a65c_clear_da8c8 16 = .ok (.getfield 48, 3) := by decide +kernel
theorem dJx4a65c_clear_da8c8_19 : decode cJx4a65c_clear_da8c8 19 = .ok (.istore_n 2, 1) := by decide +kernel
theorem dJx4a65c_clear_da8c8_20 : decode cJx4a65c_clear_da8c8 20 = .ok (.aload_n 0, 1) := by decide +kernel
theorem dJx4a65c_clear_da8c8_21 : decode cJx4a65c_clear_da8c8 21 = .ok (.iconst 0, 1) := by decide +kernel
theorem dJx4a65c_clear_da8c8_22 : decode cJx4a65c_clear_da8c8 22 = .ok (.dup_x1, 1) := by decide +kernel
theorem dJx4a65c_clear_da8c8_23 : decode cJx4a65c_clear_da8c8 23 = .ok (.putfield 48, 3) := by decide +kernel
theorem dJx4a65c_clear_da8c8_26 : decode cJx4a65c_clear_da8c8 26 = .ok (.istore_n 3, 1) := by decide +kernel
theorem dJx4a65c_clear_da8c8_27 : decode cJx4a65c_clear_da8c8 27 = .ok (.iload_n 3, 1) := by decide +kernel
theorem dJx4a65c_clear_da8c8_28 : decode cJx4a65c_clear_da8c8 28 = .ok (.iload_n 2, 1) := by decide +kernel
theorem dJx4a65c_clear_da8c8_29 : decode cJx4a65c_clear_da8c8 29 = .ok (.if_icmp .ge 13, 3) := by decide +kernel
theorem dJx4a65c_clear_da8c8_32 : decode cJx4a65c_clear_da8c8 32 = .ok (.aload_n 1, 1) := by decide +kernel
theorem dJx4a65c_clear_da8c8_33 : decode cJx4a65c_clear_da8c8 33 = .ok (.iload_n 3, 1) := by decide +kernel
theorem dJx4a65c_clear_da8c8_34 : decode cJx4a65c_clear_da8c8 34 = .ok (.aconst_null, 1) := by decide +kernel
theorem dJx4a65c_clear_da8c8_35 : decode cJx4a65c_clear_da8c8 35 = .ok (.aastore, 1) := by decide +kernel
theorem dJx4a65c_clear_da8c8_36 : decode cJx4a65c_clear_da8c8 36 = .ok (.iinc 3 1, 3) := by decide +kernel
theorem dJx4a65c_clear_da8c8_39 : decode cJx4a65c_clear_da8c8 39 = .ok (.goto (-12), 3) := by decide +kernel
theorem dJx4a65c_clear_da8c8_42 : decode cJx4a65c_clear_da8c8 42 = .ok (.return_, 1) := by decide +kernel
set_option maxRecDepth 20000 in
theorem ggJ7_copyOf_1904c_J7_copyOf_6403c : GoodIn wsJ7_copyOf_1904c wsJ7_copyOf_6403c := goodIn_r _ [8, 9, 10, 11, 12, 13, 14, 15, 16, 17, 18] (by decide +kernel) (by decide +kernel)
set_option maxRecDepth 20000 in
theorem gJ7_copyOf_1904c_J7_copyOf_6403c : GoodIn wsJ7_copyOf_1904c (va_wsS RJ7 300 yJ7_copyOf_6403c wsJ7_copyOf_6403c) := goodIn_app (goodIn_of _ (by decide +kernel)) ggJ7_copyOf_1904c_J7_copyOf_6403c
theorem dJ7_copyOf_1904c_0 : decode cJ7_copyOf_1904c 0 = .ok (.aload_n 0, 1) := by decide +kernel
theorem dJ7_copyOf_1904c_1 : decode cJ7_copyOf_1904c 1 = .ok (.iload_n 1, 1) := by decide +kernel
theorem dJ7_copyOf_1904c_2 : decode cJ7_copyOf_1904c 2 = .ok (.aload_n 0, 1) := by decide +kernel
theorem dJ7_copyOf_1904c_3 : decode cJ7_copyOf_1904c 3 = .ok (.invokevirtual 86, 3) := by decide +kernel
theorem dJ7_copyOf_1904c_6 : decode cJ7_copyOf_1904c 6 = .ok (.invokestatic 300, 3) := by decide +kernel
theorem dJ7_copyOf_1904c_9 : decode cJ7_copyOf_1904c 9 = .ok (.areturn, 1) := by decide +kernel
theorem dJ7_copyOf_6403c_0 : decode cJ7_copyOf_6403c 0 = .ok (.aload_n 2, 1) := by decide +kernel
theorem dJ7_copyOf_6403c_1 : decode cJ7_copyOf_6403c 1 = .ok (.ldc 110, 2) := by decide +kernel
theorem dJ7_copyOf_6403c_3 : decode cJ7_copyOf_6403c 3 = .ok (.if_acmp .ne 10, 3) := by decide +kernel
theorem dJ7_copyOf_6403c_6 : decode cJ7_copyOf_6403c 6 = .ok (.iload_n 1, 1) := by decide +kernel
theorem dJ7_copyOf_6403c_7 : decode cJ7_copyOf_6403c 7 = .ok (.anewarray 2, 3) := by decide +kernel
theorem dJ7_copyOf_6403c_10 : decode cJ7_copyOf_6403c 10 = .ok (.goto 14, 3) := by decide +kernel
theorem dJ7_copyOf_6403c_13 : decode cJ7_copyOf_6403c 13 = .ok (.aload_n 2, 1) := by decide +kernel
theorem dJ7_copyOf_6403c_14 : decode cJ7_copyOf_6403c 14 = .ok (.invokevirtual 90, 3) := by decide +kernel
theorem dJ7_copyOf_6403c_17 : decode cJ7_copyOf_6403c 17 = .ok (.iload_n 1, 1) := by decide +kernel
theorem dJ7_copyOf_6403c_18 : decode cJ7_copyOf_6403c 18 = .ok (.invokestatic 95, 3) := by decide +kernel
theorem dJ7_copyOf_6403c_21 : decode cJ7_copyOf_6403c 21 = .ok (.checkcast 110, 3) := by decide +kernel
theorem dJ7_copyOf_6403c_24 : decode cJ7_copyOf_6403c 24 = .ok (.astore_n 3, 1) := by decide +kernel
theorem dJ7_copyOf_6403c_25 : decode cJ7_copyOf_6403c 25 = .ok (.aload_n 0, 1) := by decide +kernel
theorem dJ7_copyOf_6403c_26 : decode cJ7_copyOf_6403c 26 = .ok (.iconst 0, 1) := by decide +kernel
theorem dJ7_copyOf_6403c_27 : decode cJ7_copyOf_6403c 27 = .ok (.aload_n 3, 1) := by decide +kernel
theorem dJ7_copyOf_6403c_28 : decode cJ7_copyOf_6403c 28 = .ok (.iconst 0, 1) := by decide +kernel
theorem dJ7_copyOf_6403c_29 : decode cJ7_copyOf_6403c 29 = .ok (.aload_n 0, 1) := by decide +kernel
theorem dJ7_copyOf_6403c_30 : decode cJ7_copyOf_6403c 30 = .ok (.arraylength, 1) := by decide +kernel
theorem dJ7_copyOf_6403c_31 : decode cJ7_copyOf_6403c 31 = .ok (.iload_n 1, 1) := by decide +kernel
theorem dJ7_copyOf_6403c_32 : decode cJ7_copyOf_6403c 32 = .ok (.invokestatic 304, 3) := by decide +kernel
theorem dJ7_copyOf_6403c_35 : decode cJ7_copyOf_6403c 35 = .ok (.invokestatic 150, 3) := by decide +kernel
theorem dJ7_copyOf_6403c_38 : decode cJ7_copyOf_6403c 38 = .ok (.aload_n 3, 1) := by decide +kernel
theorem dJ7_copyOf_6403c_39 : decode cJ7_copyOf_6403c 39 = .ok (.areturn, 1) := by decide +kernel
set_option maxRecDepth 20000 in
theorem ggJ15_checkIndex_7cf53_J3_checkIndex_8e157 : GoodIn wsJ15_checkIndex_7cf53 wsJ3_checkIndex_8e157 := goodIn_r _ [4] (by decide +kernel) (by decide +kernel)
set_option maxRecDepth 20000 in
theorem gJ15_checkIndex_7cf53_J3_checkIndex_8e157 : GoodIn wsJ15_checkIndex_7cf53 (va_wsS RJ15 105 yJ3_checkIndex_8e157 wsJ3_checkIndex_8e157) := goodIn_app (goodIn_of _ (by decide +kernel)) ggJ15_checkIndex_7cf53_J3_checkIndex_8e157
