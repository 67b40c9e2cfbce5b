theorem dX4_fixChosen_5 : decode cX4_fixChosen 5 = .ok (.bipush 7, 2) := by decide +kernel
theorem dX4_fixChosen_7 : decode cX4_fixChosen 7 = .ok (.if_icmp .ge 36, 3) := by decide +kernel
theorem dX4_fixChosen_10 : decode cX4_fixChosen 10 = .ok (.aload_n 0, 1) := by decide +kernel
theorem dX4_fixChosen_11 : decode cX4_fixChosen 11 = .ok (.getfield 41, 3) := by decide +kernel
theorem dX4_fixChosen_14 : decode cX4_fixChosen 14 = .ok (.iload_n 2, 1) := by decide +kernel
theorem dX4_fixChosen_15 : decode cX4_fixChosen 15 = .ok (.iaload, 1) := by decide +kernel
theorem dX4_fixChosen_16 : decode cX4_fixChosen 16 = .ok (.iconst (-1), 1) := by decide +kernel
theorem dX4_fixChosen_17 : decode cX4_fixChosen 17 = .ok (.if_icmp .eq 20, 3) := by decide +kernel
theorem dX4_fixChosen_20 : decode cX4_fixChosen 20 = .ok (.aload_n 0, 1) := by decide +kernel
theorem dX4_fixChosen_21 : decode cX4_fixChosen 21 = .ok (.getfield 10, 3) := by decide +kernel
theorem dX4_fixChosen_24 : decode cX4_fixChosen 24 = .ok (.iload_n 2, 1) := by decide +kernel
theorem dX4_fixChosen_25 : decode cX4_fixChosen 25 = .ok (.aload_n 0, 1) := by decide +kernel
theorem dX4_fixChosen_26 : decode cX4_fixChosen 26 = .ok (.getfield 41, 3) := by decide +kernel
theorem dX4_fixChosen_29 : decode cX4_fixChosen 29 = .ok (.iload_n 2, 1) := by decide +kernel
theorem dX4_fixChosen_30 : decode cX4_fixChosen 30 = .ok (.iaload, 1) := by decide +kernel
theorem dX4_fixChosen_31 : decode cX4_fixChosen 31 = .ok (.invokevirtual 90, 3) := by decide +kernel
theorem dX4_fixChosen_34 : decode cX4_fixChosen 34 = .ok (.iinc 1 1, 3) := by decide +kernel
theorem dX4_fixChosen_37 : decode cX4_fixChosen 37 = .ok (.iinc 2 1, 3) := by decide +kernel
theorem dX4_fixChosen_40 : decode cX4_fixChosen 40 = .ok (.goto (-36), 3) := by decide +kernel
theorem dX4_fixChosen_43 : decode cX4_fixChosen 43 = .ok (.iload_n 1, 1) := by decide +kernel
theorem dX4_fixChosen_44 : decode cX4_fixChosen 44 = .ok (.ireturn, 1) := by decide +kernel
set_option maxRecDepth 20000 in
theorem ggX4_tellWalk_X2_clear : GoodIn wsX4_tellWalk wsX2_clear := goodIn_r _ [6, 7, 8, 9, 10, 11, 124, 125] (by decide +kernel) (by decide +kernel)
set_option maxRecDepth 20000 in
theorem gX4_tellWalk_X2_clear_n168 : GoodIn wsX4_tellWalk (wsX2_clear) := ggX4_tellWalk_X2_clear
set_option maxRecDepth 20000 in
theorem ggX4_tellWalk_X2_has : GoodIn wsX4_tellWalk wsX2_has := goodIn_r _ [14, 7, 15, 16, 17, 4, 18, 124, 125] (by decide +kernel) (by decide +kernel)
set_option maxRecDepth 20000 in
theorem gX4_tellWalk_X2_has_n171 : GoodIn wsX4_tellWalk (wsX2_has) := ggX4_tellWalk_X2_has
set_option maxRecDepth 20000 in
theorem ggX4_tellWalk_X2_enter : GoodIn wsX4_tellWalk wsX2_enter := goodIn_r _ [21, 7, 22, 15, 16, 17, 4, 18, 124, 125] (by decide +kernel) (by decide +kernel)
set_option maxRecDepth 20000 in
theorem gX4_tellWalk_X2_enter_n174 : GoodIn wsX4_tellWalk (wsX2_enter) := ggX4_tellWalk_X2_enter
set_option maxRecDepth 20000 in
theorem ggX4_tellWalk_X4_bestEdge : GoodIn wsX4_tellWalk wsX4_bestEdge := goodIn_r _ [27, 28, 2, 29, 30, 31, 32, 33, 34, 35, 36, 37, 38, 39, 40, 41, 42, 43, 44, 45, 46, 47, 48, 49, 50, 51, 52, 53, 54, 55, 56, 57, 58, 59, 60, 61, 62, 63, 64, 65, 66, 67, 68, 69, 70, 71, 72, 73, 74, 75, 76, 77, 78, 79, 80, 81, 82, 83, 84, 85, 86, 87, 88, 89, 90, 91, 92, 93, 94, 95, 96, 97, 98, 99, 100, 101, 102, 103, 104, 105, 106, 107, 108, 109, 110, 111, 112, 119, 120, 121, 122, 123, 126, 127, 128, 129, 130, 131, 132, 133, 134, 135, 136, 137, 138, 139, 140, 141, 142] (by decide +kernel) (by decide +kernel)
set_option maxRecDepth 20000 in
theorem gX4_tellWalk_X4_bestEdge : GoodIn wsX4_tellWalk (wsV RX4 126 RX4 yX4_bestEdge wsX4_bestEdge) := goodIn_app (goodIn_of _ (by decide +kernel)) ggX4_tellWalk_X4_bestEdge
set_option maxRecDepth 20000 in
theorem ggX4_tellWalk_X1_weightOf : GoodIn wsX4_tellWalk wsX1_weightOf := goodIn_r _ [64, 65, 126, 127, 128, 129, 130, 131, 132, 133, 134] (by decide +kernel) (by decide +kernel)
set_option maxRecDepth 20000 in
theorem gX4_tellWalk_X1_weightOf_n177 : GoodIn wsX4_tellWalk (wsX1_weightOf) := ggX4_tellWalk_X1_weightOf
set_option maxRecDepth 20000 in
theorem ggX4_tellWalk_X1_targetOf : GoodIn wsX4_tellWalk wsX1_targetOf := goodIn_r _ [100, 101, 126, 127, 128, 129, 130, 131, 132, 133, 134] (by decide +kernel) (by decide +kernel)
set_option maxRecDepth 20000 in
theorem gX4_tellWalk_X1_targetOf_n180 : GoodIn wsX4_tellWalk (wsX1_targetOf) := ggX4_tellWalk_X1_targetOf
set_option maxRecDepth 20000 in
theorem ggX4_tellWalk_X2_stepsTo : GoodIn wsX4_tellWalk wsX2_stepsTo := goodIn_r _ [115, 7, 15, 16, 17, 4, 18, 124, 125] (by decide +kernel) (by decide +kernel)
set_option maxRecDepth 20000 in
theorem gX4_tellWalk_X2_stepsTo_n183 : GoodIn wsX4_tellWalk (wsX2_stepsTo) := ggX4_tellWalk_X2_stepsTo
set_option maxRecDepth 20000 in
theorem ggX4_tellWalk_X2_sumTo : GoodIn wsX4_tellWalk wsX2_sumTo := goodIn_r _ [118, 22, 15, 16, 17, 4, 18, 124, 125] (by decide +kernel) (by decide +kernel)
set_option maxRecDepth 20000 in
theorem gX4_tellWalk_X2_sumTo_n186 : GoodIn wsX4_tellWalk (wsX2_sumTo) := ggX4_tellWalk_X2_sumTo
theorem dX4_tellWalk_0 : decode cX4_tellWalk 0 = .ok (.aload_n 0, 1) := by decide +kernel
theorem dX4_tellWalk_1 : decode cX4_tellWalk 1 = .ok (.getfield 37, 3) := by decide +kernel
theorem dX4_tellWalk_4 : decode cX4_tellWalk 4 = .ok (.invokevirtual 168, 3) := by decide +kernel
theorem dX4_tellWalk_7 : decode cX4_tellWalk 7 = .ok (.iload_n 1, 1) := by decide +kernel
theorem dX4_tellWalk_8 : decode cX4_tellWalk 8 = .ok (.istore_n 3, 1) := by decide +kernel
theorem dX4_tellWalk_9 : decode cX4_tellWalk 9 = .ok (.iconst 0, 1) := by decide +kernel
theorem dX4_tellWalk_10 : decode cX4_tellWalk 10 = .ok (.istore 4, 2) := by decide +kernel
theorem dX4_tellWalk_12 : decode cX4_tellWalk 12 = .ok (.iconst 0, 1) := by decide +kernel
theorem dX4_tellWalk_13 : decode cX4_tellWalk 13 = .ok (.istore 5, 2) := by decide +kernel
theorem dX4_tellWalk_15 : decode cX4_tellWalk 15 = .ok (.iload 4, 2) := by decide +kernel
theorem dX4_tellWalk_17 : decode cX4_tellWalk 17 = .ok (.bipush 7, 2) := by decide +kernel
theorem dX4_tellWalk_19 : decode cX4_tellWalk 19 = .ok (.if_icmp .ge 63, 3) := by decide +kernel
theorem dX4_tellWalk_22 : decode cX4_tellWalk 22 = .ok (.aload_n 0, 1) := by decide +kernel
theorem dX4_tellWalk_23 : decode cX4_tellWalk 23 = .ok (.getfield 37, 3) := by decide +kernel
theorem dX4_tellWalk_26 : decode cX4_tellWalk 26 = .ok (.iload_n 3, 1) := by decide +kernel
theorem dX4_tellWalk_27 : decode cX4_tellWalk 27 = .ok (.invokevirtual 171, 3) := by decide +kernel
theorem dX4_tellWalk_30 : decode cX4_tellWalk 30 = .ok (.ifCond .ne 52, 3) := by decide +kernel
theorem dX4_tellWalk_33 : decode cX4_tellWalk 33 = .ok (.aload_n 0, 1) := by decide +kernel
theorem dX4_tellWalk_34 : decode cX4_tellWalk 34 = .ok (.getfield 37, 3) := by decide +kernel
theorem dX4_tellWalk_37 : decode cX4_tellWalk 37 = .ok (.iload_n 3, 1) := by decide +kernel
theorem dX4_tellWalk_38 : decode cX4_tellWalk 38 = .ok (.iload 4, 2) := by decide +kernel
theorem dX4_tellWalk_40 : decode cX4_tellWalk 40 = .ok (.iload 5, 2) := by decide +kernel
theorem dX4_tellWalk_42 : decode cX4_tellWalk 42 = .ok (.invokevirtual 174, 3) := by decide +kernel
theorem dX4_tellWalk_45 : decode cX4_tellWalk 45 = .ok (.aload_n 0, 1) := by decide +kernel
theorem dX4_tellWalk_46 : decode cX4_tellWalk 46 = .ok (.iload_n 3, 1) := by decide +kernel
theorem dX4_tellWalk_47 : decode cX4_tellWalk 47 = .ok (.invokevirtual 126, 3) := by decide +kernel
theorem dX4_tellWalk_50 : decode cX4_tellWalk 50 = .ok (.istore 6, 2) := by decide +kernel
theorem dX4_tellWalk_52 : decode cX4_tellWalk 52 = .ok (.iload 5, 2) := by decide +kernel
theorem dX4_tellWalk_54 : decode cX4_tellWalk 54 = .ok (.aload_n 0, 1) := by decide +kernel
theorem dX4_tellWalk_55 : decode cX4_tellWalk 55 = .ok (.getfield 10, 3) := by decide +kernel
theorem dX4_tellWalk_58 : decode cX4_tellWalk 58 = .ok (.iload 6, 2) := by decide +kernel
theorem dX4_tellWalk_60 : decode cX4_tellWalk 60 = .ok (.invokevirtual 177, 3) := by decide +kernel
theorem dX4_tellWalk_63 : decode cX4_tellWalk 63 = .ok (.iadd, 1) := by decide +kernel
theorem dX4_tellWalk_64 : decode cX4_tellWalk 64 = .ok (.istore 5, 2) := by decide +kernel
theorem dX4_tellWalk_66 : decode cX4_tellWalk 66 = .ok (.aload_n 0, 1) := by decide +kernel
theorem dX4_tellWalk_67 : decode cX4_tellWalk 67 = .ok (.getfield 10, 3) := by decide +kernel
theorem dX4_tellWalk_70 : decode cX4_tellWalk 70 = .ok (.iload 6, 2) := by decide +kernel
theorem dX4_tellWalk_72 : decode cX4_tellWalk 72 = .ok (.invokevirtual 180, 3) := by decide +kernel
theorem dX4_tellWalk_75 : decode cX4_tellWalk 75 = .ok (.istore_n 3, 1) := by decide +kernel
theorem dX4_tellWalk_76 : decode cX4_tellWalk 76 = .ok (.iinc 4 1, 3) := by decide +kernel
theorem dX4_tellWalk_79 : decode cX4_tellWalk 79 = .ok (.goto (-64), 3) := by decide +kernel
theorem dX4_tellWalk_82 : decode cX4_tellWalk 82 = .ok (.iload_n 2, 1) := by decide +kernel
theorem dX4_tellWalk_83 : decode cX4_tellWalk 83 = .ok (.tableswitch 58 0 2 #[25, 34, 46], 25) := by decide +kernel
theorem dX4_tellWalk_108 : decode cX4_tellWalk 108 = .ok (.aload_n 0, 1) := by decide +kernel
theorem dX4_tellWalk_109 : decode cX4_tellWalk 109 = .ok (.getfield 37, 3) := by decide +kernel
theorem dX4_tellWalk_112 : decode cX4_tellWalk 112 = .ok (.iload_n 3, 1) := by decide +kernel
theorem dX4_tellWalk_113 : decode cX4_tellWalk 113 = .ok (.invokevirtual 183, 3) := by decide +kernel
theorem dX4_tellWalk_116 : decode cX4_tellWalk 116 = .ok (.ireturn, 1) := by decide +kernel
theorem dX4_tellWalk_117 : decode cX4_tellWalk 117 = .ok (.iload 4, 2) := by decide +kernel
theorem dX4_tellWalk_119 : decode cX4_tellWalk 119 = .ok (.aload_n 0, 1) := by decide +kernel
theorem dX4_tellWalk_120 : decode cX4_tellWalk 120 = .ok (.getfield 37, 3) := by decide +kernel
theorem dX4_tellWalk_123 : decode cX4_tellWalk 123 = .ok (.iload_n 3, 1) := by decide +kernel
theorem dX4_tellWalk_124 : decode cX4_tellWalk 124 = .ok (.invokevirtual 183, 3) := by decide +kernel
theorem dX4_tellWalk_127 : decode cX4_tellWalk 127 = .ok (.isub, 1) := by decide +kernel
theorem dX4_tellWalk_128 : decode cX4_tellWalk 128 = .ok (.ireturn, 1) := by decide +kernel
theorem dX4_tellWalk_129 : decode cX4_tellWalk 129 = .ok (.iload 5, 2) := by decide +kernel
theorem dX4_tellWalk_131 : decode cX4_tellWalk 131 = .ok (.aload_n 0, 1) := by decide +kernel
theorem dX4_tellWalk_132 : decode cX4_tellWalk 132 = .ok (.getfield 37, 3) := by decide +kernel
theorem dX4_tellWalk_135 : decode cX4_tellWalk 135 = .ok (.iload_n 3, 1) := by decide +kernel
theorem dX4_tellWalk_136 : decode cX4_tellWalk 136 = .ok (.invokevirtual 186, 3) := by decide +kernel
theorem dX4_tellWalk_139 : decode cX4_tellWalk 139 = .ok (.isub, 1) := by decide +kernel
theorem dX4_tellWalk_140 : decode cX4_tellWalk 140 = .ok (.ireturn, 1) := by decide +kernel
theorem dX4_tellWalk_141 : decode cX4_tellWalk 141 = .ok (.iload_n 3, 1) := by decide +kernel
theorem dX4_tellWalk_142 : decode cX4_tellWalk 142 = .ok (.ireturn, 1) := by decide +kernel
theorem dX5_init_0 : decode cX5_init 0 = .ok (.aload_n 0, 1) := by decide +kernel
theorem dX5_init_1 : decode cX5_init 1 = .ok (.invokespecial 1, 3) := by decide +kernel
theorem dX5_init_4 : decode cX5_init 4 = .ok (.aload_n 0, 1) := by decide +kernel
theorem dX5_init_5 : decode cX5_init 5 = .ok (.bipush 7, 2) := by decide +kernel
theorem dX5_init_7 : decode cX5_init 7 = .ok (.newarray .int, 2) := by decide +kernel
theorem dX5_init_9 : decode cX5_init 9 = .ok (.putfield 7, 3) := by decide +kernel
theorem dX5_init_12 : decode cX5_init 12 = .ok (.aload_n 0, 1) := by decide +kernel
theorem dX5_init_13 : decode cX5_init 13 = .ok (.bipush 7, 2) := by decide +kernel
theorem dX5_init_15 : decode cX5_init 15 = .ok (.newarray .int, 2) := by decide +kernel
theorem dX5_init_17 : decode cX5_init 17 = .ok (.putfield 13, 3) := by decide +kernel
theorem dX5_init_20 : decode cX5_init 20 = .ok (.aload_n 0, 1) := by decide +kernel
theorem dX5_init_21 : decode cX5_init 21 = .ok (.bipush 24, 2) := by decide +kernel
theorem dX5_init_23 : decode cX5_init 23 = .ok (.newarray .int, 2) := by decide +kernel
theorem dX5_init_25 : decode cX5_init 25 = .ok (.putfield 16, 3) := by decide +kernel
theorem dX5_init_28 : decode cX5_init 28 = .ok (.aload_n 0, 1) := by decide +kernel
theorem dX5_init_29 : decode cX5_init 29 = .ok (.bipush 24, 2) := by decide +kernel
theorem dX5_init_31 : decode cX5_init 31 = .ok (.newarray .int, 2) := by decide +kernel
theorem dX5_init_33 : decode cX5_init 33 = .ok (.putfield 19, 3) := by decide +kernel
theorem dX5_init_36 : decode cX5_init 36 = .ok (.aload_n 0, 1) := by decide +kernel
theorem dX5_init_37 : decode cX5_init 37 = .ok (.bipush 24, 2) := by decide +kernel
theorem dX5_init_39 : decode cX5_init 39 = .ok (.newarray .int, 2) := by decide +kernel
theorem dX5_init_41 : decode cX5_init 41 = .ok (.putfield 22, 3) := by decide +kernel
theorem dX5_init_44 : decode cX5_init 44 = .ok (.aload_n 0, 1) := by decide +kernel
theorem dX5_init_45 : decode cX5_init 45 = .ok (.bipush 7, 2) := by decide +kernel
theorem dX5_init_47 : decode cX5_init 47 = .ok (.newarray .int, 2) := by decide +kernel
theorem dX5_init_49 : decode cX5_init 49 = .ok (.putfield 25, 3) := by decide +kernel
theorem dX5_init_52 : decode cX5_init 52 = .ok (.aload_n 0, 1) := by decide +kernel
theorem dX5_init_53 : decode cX5_init 53 = .ok (.bipush 7, 2) := by decide +kernel
theorem dX5_init_55 : decode cX5_init 55 = .ok (.newarray .int, 2) := by decide +kernel
theorem dX5_init_57 : decode cX5_init 57 = .ok (.putfield 28, 3) := by decide +kernel
theorem dX5_init_60 : decode cX5_init 60 = .ok (.aload_n 0, 1) := by decide +kernel
theorem dX5_init_61 : decode cX5_init 61 = .ok (.bipush 7, 2) := by decide +kernel
theorem dX5_init_63 : decode cX5_init 63 = .ok (.newarray .long, 2) := by decide +kernel
theorem dX5_init_65 : decode cX5_init 65 = .ok (.putfield 31, 3) := by decide +kernel
theorem dX5_init_68 : decode cX5_init 68 = .ok (.aload_n 0, 1) := by decide +kernel
theorem dX5_init_69 : decode cX5_init 69 = .ok (.bipush 7, 2) := by decide +kernel
theorem dX5_init_71 : decode cX5_init 71 = .ok (.newarray .long, 2) := by decide +kernel
theorem dX5_init_73 : decode cX5_init 73 = .ok (.putfield 35, 3) := by decide +kernel
theorem dX5_init_76 : decode cX5_init 76 = .ok (.aload_n 0, 1) := by decide +kernel
theorem dX5_init_77 : decode cX5_init 77 = .ok (.bipush 7, 2) := by decide +kernel
theorem dX5_init_79 : decode cX5_init 79 = .ok (.newarray .int, 2) := by decide +kernel
theorem dX5_init_81 : decode cX5_init 81 = .ok (.putfield 38, 3) := by decide +kernel
theorem dX5_init_84 : decode cX5_init 84 = .ok (.aload_n 0, 1) := by decide +kernel
theorem dX5_init_85 : decode cX5_init 85 = .ok (.bipush 7, 2) := by decide +kernel
theorem dX5_init_87 : decode cX5_init 87 = .ok (.newarray .int, 2) := by decide +kernel
theorem dX5_init_89 : decode cX5_init 89 = .ok (.putfield 41, 3) := by decide +kernel
theorem dX5_init_92 : decode cX5_init 92 = .ok (.aload_n 0, 1) := by decide +kernel
theorem dX5_init_93 : decode cX5_init 93 = .ok (.bipush 7, 2) := by decide +kernel
theorem dX5_init_95 : decode cX5_init 95 = .ok (.newarray .int, 2) := by decide +kernel
theorem dX5_init_97 : decode cX5_init 97 = .ok (.putfield 44, 3) := by decide +kernel
theorem dX5_init_100 : decode cX5_init 100 = .ok (.return_, 1) := by decide +kernel
theorem dX5_thrown_0 : decode cX5_thrown 0 = .ok (.aload_n 0, 1) := by decide +kernel
theorem dX5_thrown_1 : decode cX5_thrown 1 = .ok (.getfield 47, 3) := by decide +kernel
theorem dX5_thrown_4 : decode cX5_thrown 4 = .ok (.ireturn, 1) := by decide +kernel
theorem dX5_isVertex_0 : decode cX5_isVertex 0 = .ok (.iload_n 1, 1) := by decide +kernel
theorem dX5_isVertex_1 : decode cX5_isVertex 1 = .ok (.ifCond .lt 15, 3) := by decide +kernel
theorem dX5_isVertex_4 : decode cX5_isVertex 4 = .ok (.iload_n 1, 1) := by decide +kernel
theorem dX5_isVertex_5 : decode cX5_isVertex 5 = .ok (.aload_n 0, 1) := by decide +kernel
theorem dX5_isVertex_6 : decode cX5_isVertex 6 = .ok (.getfield 51, 3) := by decide +kernel
theorem dX5_isVertex_9 : decode cX5_isVertex 9 = .ok (.if_icmp .ge 7, 3) := by decide +kernel
theorem dX5_isVertex_12 : decode cX5_isVertex 12 = .ok (.iconst 1, 1) := by decide +kernel
theorem dX5_isVertex_13 : decode cX5_isVertex 13 = .ok (.goto 4, 3) := by decide +kernel
theorem dX5_isVertex_16 : decode cX5_isVertex 16 = .ok (.iconst 0, 1) := by decide +kernel
theorem dX5_isVertex_17 : decode cX5_isVertex 17 = .ok (.ireturn, 1) := by decide +kernel
theorem dX5_leads_0 : decode cX5_leads 0 = .ok (.aload_n 0, 1) := by decide +kernel
theorem dX5_leads_1 : decode cX5_leads 1 = .ok (.getfield 16, 3) := by decide +kernel
theorem dX5_leads_4 : decode cX5_leads 4 = .ok (.iload_n 1, 1) := by decide +kernel
theorem dX5_leads_5 : decode cX5_leads 5 = .ok (.iaload, 1) := by decide +kernel
theorem dX5_leads_6 : decode cX5_leads 6 = .ok (.iload_n 2, 1) := by decide +kernel
theorem dX5_leads_7 : decode cX5_leads 7 = .ok (.if_icmp .ne 27, 3) := by decide +kernel
theorem dX5_leads_10 : decode cX5_leads 10 = .ok (.aload_n 0, 1) := by decide +kernel
theorem dX5_leads_11 : decode cX5_leads 11 = .ok (.getfield 13, 3) := by decide +kernel
theorem dX5_leads_14 : decode cX5_leads 14 = .ok (.iload_n 2, 1) := by decide +kernel
theorem dX5_leads_15 : decode cX5_leads 15 = .ok (.iaload, 1) := by decide +kernel
theorem dX5_leads_16 : decode cX5_leads 16 = .ok (.iconst (-1), 1) := by decide +kernel
theorem dX5_leads_17 : decode cX5_leads 17 = .ok (.if_icmp .eq 13, 3) := by decide +kernel
theorem dX5_leads_20 : decode cX5_leads 20 = .ok (.aload_n 0, 1) := by decide +kernel
theorem dX5_leads_21 : decode cX5_leads 21 = .ok (.getfield 13, 3) := by decide +kernel
theorem dX5_leads_24 : decode cX5_leads 24 = .ok (.iload_n 2, 1) := by decide +kernel
theorem dX5_leads_25 : decode cX5_leads 25 = .ok (.iaload, 1) := by decide +kernel
theorem dX5_leads_26 : decode cX5_leads 26 = .ok (.iload_n 1, 1) := by decide +kernel
theorem dX5_leads_27 : decode cX5_leads 27 = .ok (.if_icmp .ne 7, 3) := by decide +kernel
theorem dX5_leads_30 : decode cX5_leads 30 = .ok (.iconst 1, 1) := by decide +kernel
theorem dX5_leads_31 : decode cX5_leads 31 = .ok (.goto 4, 3) := by decide +kernel
theorem dX5_leads_34 : decode cX5_leads 34 = .ok (.iconst 0, 1) := by decide +kernel
theorem dX5_leads_35 : decode cX5_leads 35 = .ok (.ireturn, 1) := by decide +kernel
set_option maxRecDepth 20000 in
theorem ggX5_isComplete_X5_leads : GoodIn wsX5_isComplete wsX5_leads := goodIn_r _ [7, 8, 9, 10, 11, 12, 13, 14, 15, 16, 17, 18, 19, 20, 21, 22, 23, 24, 25] (by decide +kernel) (by decide +kernel)
set_option maxRecDepth 20000 in
theorem gX5_isComplete_X5_leads : GoodIn wsX5_isComplete (wsV RX5 57 RX5 yX5_leads wsX5_leads) := goodIn_app (goodIn_of _ (by decide +kernel)) ggX5_isComplete_X5_leads
theorem dX5_isComplete_0 : decode cX5_isComplete 0 = .ok (.iconst 0, 1) := by decide +kernel
theorem dX5_isComplete_1 : decode cX5_isComplete 1 = .ok (.istore_n 1, 1) := by decide +kernel
theorem dX5_isComplete_2 : decode cX5_isComplete 2 = .ok (.iload_n 1, 1) := by decide +kernel
theorem dX5_isComplete_3 : decode cX5_isComplete 3 = .ok (.aload_n 0, 1) := by decide +kernel
theorem dX5_isComplete_4 : decode cX5_isComplete 4 = .ok (.getfield 51, 3) := by decide +kernel
theorem dX5_isComplete_7 : decode cX5_isComplete 7 = .ok (.if_icmp .ge 52, 3) := by decide +kernel
theorem dX5_isComplete_10 : decode cX5_isComplete 10 = .ok (.iconst 0, 1) := by decide +kernel
theorem dX5_isComplete_11 : decode cX5_isComplete 11 = .ok (.istore_n 2, 1) := by decide +kernel
theorem dX5_isComplete_12 : decode cX5_isComplete 12 = .ok (.iconst 0, 1) := by decide +kernel
theorem dX5_isComplete_13 : decode cX5_isComplete 13 = .ok (.istore_n 3, 1) := by decide +kernel
theorem dX5_isComplete_14 : decode cX5_isComplete 14 = .ok (.iload_n 3, 1) := by decide +kernel
theorem dX5_isComplete_15 : decode cX5_isComplete 15 = .ok (.aload_n 0, 1) := by decide +kernel
theorem dX5_isComplete_16 : decode cX5_isComplete 16 = .ok (.getfield 54, 3) := by decide +kernel
theorem dX5_isComplete_19 : decode cX5_isComplete 19 = .ok (.if_icmp .ge 28, 3) := by decide +kernel
theorem dX5_isComplete_22 : decode cX5_isComplete 22 = .ok (.iload_n 2, 1) := by decide +kernel
theorem dX5_isComplete_23 : decode cX5_isComplete 23 = .ok (.ifCond .ne 12, 3) := by decide +kernel
theorem dX5_isComplete_26 : decode cX5_isComplete 26 = .ok (.aload_n 0, 1) := by decide +kernel
theorem dX5_isComplete_27 : decode cX5_isComplete 27 = .ok (.iload_n 3, 1) := by decide +kernel
theorem dX5_isComplete_28 : decode cX5_isComplete 28 = .ok (.iload_n 1, 1) := by decide +kernel
theorem dX5_isComplete_29 : decode cX5_isComplete 29 = .ok (.invokevirtual 57, 3) := by decide +kernel
theorem dX5_isComplete_32 : decode cX5_isComplete 32 = .ok (.ifCond .eq 7, 3) := by decide +kernel
theorem dX5_isComplete_35 : decode cX5_isComplete 35 = .ok (.iconst 1, 1) := by decide +kernel
theorem dX5_isComplete_36 : decode cX5_isComplete 36 = .ok (.goto 4, 3) := by decide +kernel
theorem dX5_isComplete_39 : decode cX5_isComplete 39 = .ok (.iconst 0, 1) := by decide +kernel
theorem dX5_isComplete_40 : decode cX5_isComplete 40 = .ok (.istore_n 2, 1) := by decide +kernel
theorem dX5_isComplete_41 : decode cX5_isComplete 41 = .ok (.iinc 3 1, 3) := by decide +kernel
theorem dX5_isComplete_44 : decode cX5_isComplete 44 = .ok (.goto (-30), 3) := by decide +kernel
theorem dX5_isComplete_47 : decode cX5_isComplete 47 = .ok (.iload_n 2, 1) := by decide +kernel
theorem dX5_isComplete_48 : decode cX5_isComplete 48 = .ok (.ifCond .ne 5, 3) := by decide +kernel
theorem dX5_isComplete_51 : decode cX5_isComplete 51 = .ok (.iconst 0, 1) := by decide +kernel
theorem dX5_isComplete_52 : decode cX5_isComplete 52 = .ok (.ireturn, 1) := by decide +kernel
theorem dX5_isComplete_53 : decode cX5_isComplete 53 = .ok (.iinc 1 1, 3) := by decide +kernel
theorem dX5_isComplete_56 : decode cX5_isComplete 56 = .ok (.goto (-54), 3) := by decide +kernel
theorem dX5_isComplete_59 : decode cX5_isComplete 59 = .ok (.aload_n 0, 1) := by decide +kernel
theorem dX5_isComplete_60 : decode cX5_isComplete 60 = .ok (.getfield 51, 3) := by decide +kernel
theorem dX5_isComplete_63 : decode cX5_isComplete 63 = .ok (.ifCond .le 7, 3) := by decide +kernel
theorem dX5_isComplete_66 : decode cX5_isComplete 66 = .ok (.iconst 1, 1) := by decide +kernel
theorem dX5_isComplete_67 : decode cX5_isComplete 67 = .ok (.goto 4, 3) := by decide +kernel
theorem dX5_isComplete_70 : decode cX5_isComplete 70 = .ok (.iconst 0, 1) := by decide +kernel
theorem dX5_isComplete_71 : decode cX5_isComplete 71 = .ok (.ireturn, 1) := by decide +kernel
theorem dX5_vertex_0 : decode cX5_vertex 0 = .ok (.aload_n 0, 1) := by decide +kernel
theorem dX5_vertex_1 : decode cX5_vertex 1 = .ok (.iload_n 1, 1) := by decide +kernel
theorem dX5_vertex_2 : decode cX5_vertex 2 = .ok (.ifCond .eq 12, 3) := by decide +kernel
theorem dX5_vertex_5 : decode cX5_vertex 5 = .ok (.iload_n 1, 1) := by decide +kernel
theorem dX5_vertex_6 : decode cX5_vertex 6 = .ok (.iconst 1, 1) := by decide +kernel
theorem dX5_vertex_7 : decode cX5_vertex 7 = .ok (.if_icmp .eq 7, 3) := by decide +kernel
theorem dX5_vertex_10 : decode cX5_vertex 10 = .ok (.iconst 1, 1) := by decide +kernel
theorem dX5_vertex_11 : decode cX5_vertex 11 = .ok (.goto 17, 3) := by decide +kernel
theorem dX5_vertex_14 : decode cX5_vertex 14 = .ok (.aload_n 0, 1) := by decide +kernel
theorem dX5_vertex_15 : decode cX5_vertex 15 = .ok (.getfield 51, 3) := by decide +kernel
theorem dX5_vertex_18 : decode cX5_vertex 18 = .ok (.bipush 7, 2) := by decide +kernel
theorem dX5_vertex_20 : decode cX5_vertex 20 = .ok (.if_icmp .ne 7, 3) := by decide +kernel
theorem dX5_vertex_23 : decode cX5_vertex 23 = .ok (.iconst 2, 1) := by decide +kernel
theorem dX5_vertex_24 : decode cX5_vertex 24 = .ok (.goto 4, 3) := by decide +kernel
theorem dX5_vertex_27 : decode cX5_vertex 27 = .ok (.iconst 0, 1) := by decide +kernel
theorem dX5_vertex_28 : decode cX5_vertex 28 = .ok (.putfield 47, 3) := by decide +kernel
theorem dX5_vertex_31 : decode cX5_vertex 31 = .ok (.aload_n 0, 1) := by decide +kernel
theorem dX5_vertex_32 : decode cX5_vertex 32 = .ok (.getfield 47, 3) := by decide +kernel
theorem dX5_vertex_35 : decode cX5_vertex 35 = .ok (.ifCond .le 5, 3) := by decide +kernel
theorem dX5_vertex_38 : decode cX5_vertex 38 = .ok (.iconst 0, 1) := by decide +kernel
theorem dX5_vertex_39 : decode cX5_vertex 39 = .ok (.ireturn, 1) := by decide +kernel
theorem dX5_vertex_40 : decode cX5_vertex 40 = .ok (.aload_n 0, 1) := by decide +kernel
theorem dX5_vertex_41 : decode cX5_vertex 41 = .ok (.getfield 7, 3) := by decide +kernel
theorem dX5_vertex_44 : decode cX5_vertex 44 = .ok (.aload_n 0, 1) := by decide +kernel
theorem dX5_vertex_45 : decode cX5_vertex 45 = .ok (.getfield 51, 3) := by decide +kernel
theorem dX5_vertex_48 : decode cX5_vertex 48 = .ok (.iload_n 1, 1) := by decide +kernel
theorem dX5_vertex_49 : decode cX5_vertex 49 = .ok (.iastore, 1) := by decide +kernel
theorem dX5_vertex_50 : decode cX5_vertex 50 = .ok (.aload_n 0, 1) := by decide +kernel
theorem dX5_vertex_51 : decode cX5_vertex 51 = .ok (.getfield 13, 3) := by decide +kernel
theorem dX5_vertex_54 : decode cX5_vertex 54 = .ok (.aload_n 0, 1) := by decide +kernel
theorem dX5_vertex_55 : decode cX5_vertex 55 = .ok (.getfield 51, 3) := by decide +kernel
theorem dX5_vertex_58 : decode cX5_vertex 58 = .ok (.iconst (-1), 1) := by decide +kernel
theorem dX5_vertex_59 : decode cX5_vertex 59 = .ok (.iastore, 1) := by decide +kernel
theorem dX5_vertex_60 : decode cX5_vertex 60 = .ok (.aload_n 0, 1) := by decide +kernel
theorem dX5_vertex_61 : decode cX5_vertex 61 = .ok (.dup, 1) := by decide +kernel
theorem dX5_vertex_62 : decode cX5_vertex 62 = .ok (.getfield 51, 3) := by decide +kernel
theorem dX5_vertex_65 : decode cX5_vertex 65 = .ok (.iconst 1, 1) := by decide +kernel
theorem dX5_vertex_66 : decode cX5_vertex 66 = .ok (.iadd, 1) := by decide +kernel
theorem dX5_vertex_67 : decode cX5_vertex 67 = .ok (.putfield 51, 3) := by decide +kernel
theorem dX5_vertex_70 : decode cX5_vertex 70 = .ok (.aload_n 0, 1) := by decide +kernel
theorem dX5_vertex_71 : decode cX5_vertex 71 = .ok (.iconst 0, 1) := by decide +kernel
theorem dX5_vertex_72 : decode cX5_vertex 72 = .ok (.putfield 61, 3) := by decide +kernel
theorem dX5_vertex_75 : decode cX5_vertex 75 = .ok (.aload_n 0, 1) := by decide +kernel
theorem dX5_vertex_76 : decode cX5_vertex 76 = .ok (.getfield 51, 3) := by decide +kernel
theorem dX5_vertex_79 : decode cX5_vertex 79 = .ok (.iconst 1, 1) := by decide +kernel
theorem dX5_vertex_80 : decode cX5_vertex 80 = .ok (.isub, 1) := by decide +kernel
theorem dX5_vertex_81 : decode cX5_vertex 81 = .ok (.ireturn, 1) := by decide +kernel
set_option maxRecDepth 20000 in
theorem ggX5_edge_X5_isVertex : GoodIn wsX5_edge wsX5_isVertex := goodIn_r _ [11, 12, 13, 14, 15, 16, 17, 18, 19, 20, 21, 22, 23, 24, 25, 26, 27, 28] (by decide +kernel) (by decide +kernel)
set_option maxRecDepth 20000 in
theorem gX5_edge_X5_isVertex : GoodIn wsX5_edge (wsV RX5 65 RX5 yX5_isVertex wsX5_isVertex) := goodIn_app (goodIn_of _ (by decide +kernel)) ggX5_edge_X5_isVertex
theorem dX5_edge_0 : decode cX5_edge 0 = .ok (.aload_n 0, 1) := by decide +kernel
theorem dX5_edge_1 : decode cX5_edge 1 = .ok (.aload_n 0, 1) := by decide +kernel
theorem dX5_edge_2 : decode cX5_edge 2 = .ok (.iload_n 1, 1) := by decide +kernel
theorem dX5_edge_3 : decode cX5_edge 3 = .ok (.invokevirtual 65, 3) := by decide +kernel
theorem dX5_edge_6 : decode cX5_edge 6 = .ok (.ifCond .eq 23, 3) := by decide +kernel
theorem dX5_edge_9 : decode cX5_edge 9 = .ok (.aload_n 0, 1) := by decide +kernel
theorem dX5_edge_10 : decode cX5_edge 10 = .ok (.iload_n 2, 1) := by decide +kernel
theorem dX5_edge_11 : decode cX5_edge 11 = .ok (.invokevirtual 65, 3) := by decide +kernel
theorem dX5_edge_14 : decode cX5_edge 14 = .ok (.ifCond .eq 15, 3) := by decide +kernel
theorem dX5_edge_17 : decode cX5_edge 17 = .ok (.iload_n 3, 1) := by decide +kernel
theorem dX5_edge_18 : decode cX5_edge 18 = .ok (.bipush (-9), 2) := by decide +kernel
theorem dX5_edge_20 : decode cX5_edge 20 = .ok (.if_icmp .lt 9, 3) := by decide +kernel
theorem dX5_edge_23 : decode cX5_edge 23 = .ok (.iload_n 3, 1) := by decide +kernel
theorem dX5_edge_24 : decode cX5_edge 24 = .ok (.bipush 9, 2) := by decide +kernel
theorem dX5_edge_26 : decode cX5_edge 26 = .ok (.if_icmp .le 7, 3) := by decide +kernel
theorem dX5_edge_29 : decode cX5_edge 29 = .ok (.iconst 1, 1) := by decide +kernel
theorem dX5_edge_30 : decode cX5_edge 30 = .ok (.goto 17, 3) := by decide +kernel
theorem dX5_edge_33 : decode cX5_edge 33 = .ok (.aload_n 0, 1) := by decide +kernel
theorem dX5_edge_34 : decode cX5_edge 34 = .ok (.getfield 54, 3) := by decide +kernel
theorem dX5_edge_37 : decode cX5_edge 37 = .ok (.bipush 24, 2) := by decide +kernel
theorem dX5_edge_39 : decode cX5_edge 39 = .ok (.if_icmp .ne 7, 3) := by decide +kernel
theorem dX5_edge_42 : decode cX5_edge 42 = .ok (.iconst 2, 1) := by decide +kernel
theorem dX5_edge_43 : decode cX5_edge 43 = .ok (.goto 4, 3) := by decide +kernel
theorem dX5_edge_46 : decode cX5_edge 46 = .ok (.iconst 0, 1) := by decide +kernel
theorem dX5_edge_47 : decode cX5_edge 47 = .ok (.putfield 47, 3) := by decide +kernel
theorem dX5_edge_50 : decode cX5_edge 50 = .ok (.aload_n 0, 1) := by decide +kernel
theorem dX5_edge_51 : decode cX5_edge 51 = .ok (.getfield 47, 3) := by decide +kernel
theorem dX5_edge_54 : decode cX5_edge 54 = .ok (.ifCond .le 5, 3) := by decide +kernel
theorem dX5_edge_57 : decode cX5_edge 57 = .ok (.iconst 0, 1) := by decide +kernel
theorem dX5_edge_58 : decode cX5_edge 58 = .ok (.ireturn, 1) := by decide +kernel
theorem dX5_edge_59 : decode cX5_edge 59 = .ok (.aload_n 0, 1) := by decide +kernel
theorem dX5_edge_60 : decode cX5_edge 60 = .ok (.getfield 16, 3) := by decide +kernel
theorem dX5_edge_63 : decode cX5_edge 63 = .ok (.aload_n 0, 1) := by decide +kernel
theorem dX5_edge_64 : decode cX5_edge 64 = .ok (.getfield 54, 3) := by decide +kernel
theorem dX5_edge_67 : decode cX5_edge 67 = .ok (.iload_n 1, 1) := by decide +kernel
theorem dX5_edge_68 : decode cX5_edge 68 = .ok (.iastore, 1) := by decide +kernel
theorem dX5_edge_69 : decode cX5_edge 69 = .ok (.aload_n 0, 1) := by decide +kernel
theorem dX5_edge_70 : decode cX5_edge 70 = .ok (.getfield 19, 3) := by decide +kernel
theorem dX5_edge_73 : decode cX5_edge 73 = .ok (.aload_n 0, 1) := by decide +kernel
theorem dX5_edge_74 : decode cX5_edge 74 = .ok (.getfield 54, 3) := by decide +kernel
theorem dX5_edge_77 : decode cX5_edge 77 = .ok (.iload_n 2, 1) := by decide +kernel
theorem dX5_edge_78 : decode cX5_edge 78 = .ok (.iastore, 1) := by decide +kernel
theorem dX5_edge_79 : decode cX5_edge 79 = .ok (.aload_n 0, 1) := by decide +kernel
theorem dX5_edge_80 : decode cX5_edge 80 = .ok (.getfield 22, 3) := by decide +kernel
theorem dX5_edge_83 : decode cX5_edge 83 = .ok (.aload_n 0, 1) := by decide +kernel
theorem dX5_edge_84 : decode cX5_edge 84 = .ok (.getfield 54, 3) := by decide +kernel
theorem dX5_edge_87 : decode cX5_edge 87 = .ok (.iload_n 3, 1) := by decide +kernel
theorem dX5_edge_88 : decode cX5_edge 88 = .ok (.iastore, 1) := by decide +kernel
theorem dX5_edge_89 : decode cX5_edge 89 = .ok (.aload_n 0, 1) := by decide +kernel
theorem dX5_edge_90 : decode cX5_edge 90 = .ok (.dup, 1) := by decide +kernel
theorem dX5_edge_91 : decode cX5_edge 91 = .ok (.getfield 54, 3) := by decide +kernel
theorem dX5_edge_94 : decode cX5_edge 94 = .ok (.iconst 1, 1) := by decide +kernel
theorem dX5_edge_95 : decode cX5_edge 95 = .ok (.iadd, 1) := by decide +kernel
theorem dX5_edge_96 : decode cX5_edge 96 = .ok (.putfield 54, 3) := by decide +kernel
theorem dX5_edge_99 : decode cX5_edge 99 = .ok (.aload_n 0, 1) := by decide +kernel
theorem dX5_edge_100 : decode cX5_edge 100 = .ok (.iconst 0, 1) := by decide +kernel
theorem dX5_edge_101 : decode cX5_edge 101 = .ok (.putfield 61, 3) := by decide +kernel
theorem dX5_edge_104 : decode cX5_edge 104 = .ok (.aload_n 0, 1) := by decide +kernel
theorem dX5_edge_105 : decode cX5_edge 105 = .ok (.getfield 54, 3) := by decide +kernel
theorem dX5_edge_108 : decode cX5_edge 108 = .ok (.iconst 1, 1) := by decide +kernel
theorem dX5_edge_109 : decode cX5_edge 109 = .ok (.isub, 1) := by decide +kernel
theorem dX5_edge_110 : decode cX5_edge 110 = .ok (.ireturn, 1) := by decide +kernel
set_option maxRecDepth 20000 in
theorem ggX5_fix_X5_isVertex : GoodIn wsX5_fix wsX5_isVertex := goodIn_r _ [10, 11, 12, 13, 14, 15, 16, 17, 18, 19, 20, 21, 22, 23, 24, 25, 26, 27] (by decide +kernel) (by decide +kernel)
set_option maxRecDepth 20000 in
theorem gX5_fix_X5_isVertex : GoodIn wsX5_fix (wsV RX5 65 RX5 yX5_isVertex wsX5_isVertex) := goodIn_app (goodIn_of _ (by decide +kernel)) ggX5_fix_X5_isVertex
theorem dX5_fix_0 : decode cX5_fix 0 = .ok (.aload_n 0, 1) := by decide +kernel
theorem dX5_fix_1 : decode cX5_fix 1 = .ok (.aload_n 0, 1) := by decide +kernel
theorem dX5_fix_2 : decode cX5_fix 2 = .ok (.iload_n 1, 1) := by decide +kernel
theorem dX5_fix_3 : decode cX5_fix 3 = .ok (.invokevirtual 65, 3) := by decide +kernel
theorem dX5_fix_6 : decode cX5_fix 6 = .ok (.ifCond .eq 30, 3) := by decide +kernel
theorem dX5_fix_9 : decode cX5_fix 9 = .ok (.iload_n 2, 1) := by decide +kernel
theorem dX5_fix_10 : decode cX5_fix 10 = .ok (.iconst (-1), 1) := by decide +kernel
theorem dX5_fix_11 : decode cX5_fix 11 = .ok (.if_icmp .eq 29, 3) := by decide +kernel
theorem dX5_fix_14 : decode cX5_fix 14 = .ok (.iload_n 2, 1) := by decide +kernel
theorem dX5_fix_15 : decode cX5_fix 15 = .ok (.ifCond .lt 21, 3) := by decide +kernel
theorem dX5_fix_18 : decode cX5_fix 18 = .ok (.iload_n 2, 1) := by decide +kernel
theorem dX5_fix_19 : decode cX5_fix 19 = .ok (.aload_n 0, 1) := by decide +kernel
theorem dX5_fix_20 : decode cX5_fix 20 = .ok (.getfield 54, 3) := by decide +kernel
theorem dX5_fix_23 : decode cX5_fix 23 = .ok (.if_icmp .ge 13, 3) := by decide +kernel
theorem dX5_fix_26 : decode cX5_fix 26 = .ok (.aload_n 0, 1) := by decide +kernel
theorem dX5_fix_27 : decode cX5_fix 27 = .ok (.getfield 16, 3) := by decide +kernel
theorem dX5_fix_30 : decode cX5_fix 30 = .ok (.iload_n 2, 1) := by decide +kernel
theorem dX5_fix_31 : decode cX5_fix 31 = .ok (.iaload, 1) := by decide +kernel
theorem dX5_fix_32 : decode cX5_fix 32 = .ok (.iload_n 1, 1) := by decide +kernel
theorem dX5_fix_33 : decode cX5_fix 33 = .ok (.if_icmp .eq 7, 3) := by decide +kernel
theorem dX5_fix_36 : decode cX5_fix 36 = .ok (.iconst 1, 1) := by decide +kernel
theorem dX5_fix_37 : decode cX5_fix 37 = .ok (.goto 4, 3) := by decide +kernel
theorem dX5_fix_40 : decode cX5_fix 40 = .ok (.iconst 0, 1) := by decide +kernel
theorem dX5_fix_41 : decode cX5_fix 41 = .ok (.putfield 47, 3) := by decide +kernel
theorem dX5_fix_44 : decode cX5_fix 44 = .ok (.aload_n 0, 1) := by decide +kernel
theorem dX5_fix_45 : decode cX5_fix 45 = .ok (.getfield 47, 3) := by decide +kernel
theorem dX5_fix_48 : decode cX5_fix 48 = .ok (.ifCond .le 4, 3) := by decide +kernel
theorem dX5_fix_51 : decode cX5_fix 51 = .ok (.return_, 1) := by decide +kernel
theorem dX5_fix_52 : decode cX5_fix 52 = .ok (.aload_n 0, 1) := by decide +kernel
theorem dX5_fix_53 : decode cX5_fix 53 = .ok (.getfield 13, 3) := by decide +kernel
theorem dX5_fix_56 : decode cX5_fix 56 = .ok (.iload_n 1, 1) := by decide +kernel
theorem dX5_fix_57 : decode cX5_fix 57 = .ok (.iload_n 2, 1) := by decide +kernel
theorem dX5_fix_58 : decode cX5_fix 58 = .ok (.iastore, 1) := by decide +kernel
theorem dX5_fix_59 : decode cX5_fix 59 = .ok (.aload_n 0, 1) := by decide +kernel
theorem dX5_fix_60 : decode cX5_fix 60 = .ok (.iconst 0, 1) := by decide +kernel
theorem dX5_fix_61 : decode cX5_fix 61 = .ok (.putfield 61, 3) := by decide +kernel
theorem dX5_fix_64 : decode cX5_fix 64 = .ok (.return_, 1) := by decide +kernel
set_option maxRecDepth 20000 in
theorem ggX5_fixed_X5_isVertex : GoodIn wsX5_fixed wsX5_isVertex := goodIn_r _ [7, 8, 9, 10, 11, 12, 13, 14, 15, 16, 17, 18, 19, 20, 21, 22, 23, 24] (by decide +kernel) (by decide +kernel)
set_option maxRecDepth 20000 in
theorem gX5_fixed_X5_isVertex : GoodIn wsX5_fixed (wsV RX5 65 RX5 yX5_isVertex wsX5_isVertex) := goodIn_app (goodIn_of _ (by decide +kernel)) ggX5_fixed_X5_isVertex
theorem dX5_fixed_0 : decode cX5_fixed 0 = .ok (.aload_n 0, 1) := by decide +kernel
theorem dX5_fixed_1 : decode cX5_fixed 1 = .ok (.aload_n 0, 1) := by decide +kernel
theorem dX5_fixed_2 : decode cX5_fixed 2 = .ok (.iload_n 1, 1) := by decide +kernel
theorem dX5_fixed_3 : decode cX5_fixed 3 = .ok (.invokevirtual 65, 3) := by decide +kernel
theorem dX5_fixed_6 : decode cX5_fixed 6 = .ok (.ifCond .eq 7, 3) := by decide +kernel
theorem dX5_fixed_9 : decode cX5_fixed 9 = .ok (.iconst 0, 1) := by decide +kernel
theorem dX5_fixed_10 : decode cX5_fixed 10 = .ok (.goto 4, 3) := by decide +kernel
theorem dX5_fixed_13 : decode cX5_fixed 13 = .ok (.iconst 1, 1) := by decide +kernel
theorem dX5_fixed_14 : decode cX5_fixed 14 = .ok (.putfield 47, 3) := by decide +kernel
theorem dX5_fixed_17 : decode cX5_fixed 17 = .ok (.aload_n 0, 1) := by decide +kernel
theorem dX5_fixed_18 : decode cX5_fixed 18 = .ok (.getfield 47, 3) := by decide +kernel
theorem dX5_fixed_21 : decode cX5_fixed 21 = .ok (.ifCond .le 7, 3) := by decide +kernel
theorem dX5_fixed_24 : decode cX5_fixed 24 = .ok (.iconst 0, 1) := by decide +kernel
theorem dX5_fixed_25 : decode cX5_fixed 25 = .ok (.goto 9, 3) := by decide +kernel
theorem dX5_fixed_28 : decode cX5_fixed 28 = .ok (.aload_n 0, 1) := by decide +kernel
theorem dX5_fixed_29 : decode cX5_fixed 29 = .ok (.getfield 13, 3) := by decide +kernel
theorem dX5_fixed_32 : decode cX5_fixed 32 = .ok (.iload_n 1, 1) := by decide +kernel
theorem dX5_fixed_33 : decode cX5_fixed 33 = .ok (.iaload, 1) := by decide +kernel
theorem dX5_fixed_34 : decode cX5_fixed 34 = .ok (.ireturn, 1) := by decide +kernel
set_option maxRecDepth 20000 in
theorem ggX5_refuses_X5_isVertex : GoodIn wsX5_refuses wsX5_isVertex := goodIn_r _ [6, 7, 19, 20, 21, 22, 23, 24, 25, 26, 27, 28, 29, 30, 31, 32, 33, 34] (by decide +kernel) (by decide +kernel)
set_option maxRecDepth 20000 in
theorem gX5_refuses_X5_isVertex : GoodIn wsX5_refuses (wsV RX5 65 RX5 yX5_isVertex wsX5_isVertex) := goodIn_app (goodIn_of _ (by decide +kernel)) ggX5_refuses_X5_isVertex
set_option maxRecDepth 20000 in
theorem ggX5_refuses_X5_isComplete : GoodIn wsX5_refuses wsX5_isComplete := goodIn_r _ [11, 7, 12, 13, 14, 15, 5, 16, 17, 18, 19, 20, 21, 22, 23, 24, 25, 26, 27, 28, 29, 30, 31, 32, 33, 34] (by decide +kernel) (by decide +kernel)
set_option maxRecDepth 20000 in
theorem gX5_refuses_X5_isComplete : GoodIn wsX5_refuses (wsV RX5 69 RX5 yX5_isComplete wsX5_isComplete) := goodIn_app (goodIn_of _ (by decide +kernel)) ggX5_refuses_X5_isComplete
theorem dX5_refuses_0 : decode cX5_refuses 0 = .ok (.aload_n 0, 1) := by decide +kernel
theorem dX5_refuses_1 : decode cX5_refuses 1 = .ok (.aload_n 0, 1) := by decide +kernel
theorem dX5_refuses_2 : decode cX5_refuses 2 = .ok (.iload_n 1, 1) := by decide +kernel
theorem dX5_refuses_3 : decode cX5_refuses 3 = .ok (.invokevirtual 65, 3) := by decide +kernel
theorem dX5_refuses_6 : decode cX5_refuses 6 = .ok (.ifCond .ne 7, 3) := by decide +kernel
theorem dX5_refuses_9 : decode cX5_refuses 9 = .ok (.iconst 1, 1) := by decide +kernel
theorem dX5_refuses_10 : decode cX5_refuses 10 = .ok (.goto 15, 3) := by decide +kernel
theorem dX5_refuses_13 : decode cX5_refuses 13 = .ok (.aload_n 0, 1) := by decide +kernel
theorem dX5_refuses_14 : decode cX5_refuses 14 = .ok (.invokevirtual 69, 3) := by decide +kernel
theorem dX5_refuses_17 : decode cX5_refuses 17 = .ok (.ifCond .eq 7, 3) := by decide +kernel
theorem dX5_refuses_20 : decode cX5_refuses 20 = .ok (.iconst 0, 1) := by decide +kernel
theorem dX5_refuses_21 : decode cX5_refuses 21 = .ok (.goto 4, 3) := by decide +kernel
theorem dX5_refuses_24 : decode cX5_refuses 24 = .ok (.iconst 2, 1) := by decide +kernel
theorem dX5_refuses_25 : decode cX5_refuses 25 = .ok (.putfield 47, 3) := by decide +kernel
theorem dX5_refuses_28 : decode cX5_refuses 28 = .ok (.aload_n 0, 1) := by decide +kernel
theorem dX5_refuses_29 : decode cX5_refuses 29 = .ok (.getfield 47, 3) := by decide +kernel
theorem dX5_refuses_32 : decode cX5_refuses 32 = .ok (.ifCond .le 7, 3) := by decide +kernel
theorem dX5_refuses_35 : decode cX5_refuses 35 = .ok (.iconst 1, 1) := by decide +kernel
theorem dX5_refuses_36 : decode cX5_refuses 36 = .ok (.goto 4, 3) := by decide +kernel
theorem dX5_refuses_39 : decode cX5_refuses 39 = .ok (.iconst 0, 1) := by decide +kernel
theorem dX5_refuses_40 : decode cX5_refuses 40 = .ok (.ireturn, 1) := by decide +kernel
set_option maxRecDepth 20000 in
theorem ggX5_findNeeds_X5_need : GoodIn wsX5_findNeeds wsX5_need := goodIn_r _ [11, 12, 1, 4, 13, 6, 2, 14, 15, 16, 10, 17, 18, 19, 20, 21, 22, 23, 24, 25, 26, 27, 28, 29, 30, 31, 32, 33, 34, 35] (by decide +kernel) (by decide +kernel)
set_option maxRecDepth 20000 in
theorem gX5_findNeeds_X5_need : GoodIn wsX5_findNeeds (wsV RX5 73 RX5 yX5_need wsX5_need) := goodIn_app (goodIn_of _ (by decide +kernel)) ggX5_findNeeds_X5_need
theorem dX5_findNeeds_0 : decode cX5_findNeeds 0 = .ok (.iconst 0, 1) := by decide +kernel
theorem dX5_findNeeds_1 : decode cX5_findNeeds 1 = .ok (.istore 4, 2) := by decide +kernel
theorem dX5_findNeeds_3 : decode cX5_findNeeds 3 = .ok (.iconst 0, 1) := by decide +kernel
theorem dX5_findNeeds_4 : decode cX5_findNeeds 4 = .ok (.istore 5, 2) := by decide +kernel
theorem dX5_findNeeds_6 : decode cX5_findNeeds 6 = .ok (.iload 5, 2) := by decide +kernel
theorem dX5_findNeeds_8 : decode cX5_findNeeds 8 = .ok (.aload_n 0, 1) := by decide +kernel
theorem dX5_findNeeds_9 : decode cX5_findNeeds 9 = .ok (.getfield 54, 3) := by decide +kernel
theorem dX5_findNeeds_12 : decode cX5_findNeeds 12 = .ok (.if_icmp .ge 45, 3) := by decide +kernel
theorem dX5_findNeeds_15 : decode cX5_findNeeds 15 = .ok (.iload_n 1, 1) := by decide +kernel
theorem dX5_findNeeds_16 : decode cX5_findNeeds 16 = .ok (.aload_n 0, 1) := by decide +kernel
theorem dX5_findNeeds_17 : decode cX5_findNeeds 17 = .ok (.getfield 22, 3) := by decide +kernel
theorem dX5_findNeeds_20 : decode cX5_findNeeds 20 = .ok (.iload 5, 2) := by decide +kernel
theorem dX5_findNeeds_22 : decode cX5_findNeeds 22 = .ok (.iaload, 1) := by decide +kernel
theorem dX5_findNeeds_23 : decode cX5_findNeeds 23 = .ok (.imul, 1) := by decide +kernel
theorem dX5_findNeeds_24 : decode cX5_findNeeds 24 = .ok (.iload_n 2, 1) := by decide +kernel
theorem dX5_findNeeds_25 : decode cX5_findNeeds 25 = .ok (.isub, 1) := by decide +kernel
theorem dX5_findNeeds_26 : decode cX5_findNeeds 26 = .ok (.istore 6, 2) := by decide +kernel
theorem dX5_findNeeds_28 : decode cX5_findNeeds 28 = .ok (.iload 6, 2) := by decide +kernel
theorem dX5_findNeeds_30 : decode cX5_findNeeds 30 = .ok (.ifCond .ge 17, 3) := by decide +kernel
theorem dX5_findNeeds_33 : decode cX5_findNeeds 33 = .ok (.iload 6, 2) := by decide +kernel
theorem dX5_findNeeds_35 : decode cX5_findNeeds 35 = .ok (.ineg, 1) := by decide +kernel
theorem dX5_findNeeds_36 : decode cX5_findNeeds 36 = .ok (.iload 4, 2) := by decide +kernel
theorem dX5_findNeeds_38 : decode cX5_findNeeds 38 = .ok (.if_icmp .le 9, 3) := by decide +kernel
theorem dX5_findNeeds_41 : decode cX5_findNeeds 41 = .ok (.iload 6, 2) := by decide +kernel
theorem dX5_findNeeds_43 : decode cX5_findNeeds 43 = .ok (.ineg, 1) := by decide +kernel
theorem dX5_findNeeds_44 : decode cX5_findNeeds 44 = .ok (.goto 5, 3) := by decide +kernel
theorem dX5_findNeeds_47 : decode cX5_findNeeds 47 = .ok (.iload 4, 2) := by decide +kernel
theorem dX5_findNeeds_49 : decode cX5_findNeeds 49 = .ok (.istore 4, 2) := by decide +kernel
theorem dX5_findNeeds_51 : decode cX5_findNeeds 51 = .ok (.iinc 5 1, 3) := by decide +kernel
theorem dX5_findNeeds_54 : decode cX5_findNeeds 54 = .ok (.goto (-48), 3) := by decide +kernel
theorem dX5_findNeeds_57 : decode cX5_findNeeds 57 = .ok (.iconst 0, 1) := by decide +kernel
theorem dX5_findNeeds_58 : decode cX5_findNeeds 58 = .ok (.istore 5, 2) := by decide +kernel
theorem dX5_findNeeds_60 : decode cX5_findNeeds 60 = .ok (.iload 5, 2) := by decide +kernel
theorem dX5_findNeeds_62 : decode cX5_findNeeds 62 = .ok (.aload_n 0, 1) := by decide +kernel
theorem dX5_findNeeds_63 : decode cX5_findNeeds 63 = .ok (.getfield 51, 3) := by decide +kernel
theorem dX5_findNeeds_66 : decode cX5_findNeeds 66 = .ok (.if_icmp .ge 17, 3) := by decide +kernel
theorem dX5_findNeeds_69 : decode cX5_findNeeds 69 = .ok (.aload_n 0, 1) := by decide +kernel
theorem dX5_findNeeds_70 : decode cX5_findNeeds 70 = .ok (.getfield 38, 3) := by decide +kernel
theorem dX5_findNeeds_73 : decode cX5_findNeeds 73 = .ok (.iload 5, 2) := by decide +kernel
theorem dX5_findNeeds_75 : decode cX5_findNeeds 75 = .ok (.iconst 0, 1) := by decide +kernel
theorem dX5_findNeeds_76 : decode cX5_findNeeds 76 = .ok (.iastore, 1) := by decide +kernel
theorem dX5_findNeeds_77 : decode cX5_findNeeds 77 = .ok (.iinc 5 1, 3) := by decide +kernel
theorem dX5_findNeeds_80 : decode cX5_findNeeds 80 = .ok (.goto (-20), 3) := by decide +kernel
theorem dX5_findNeeds_83 : decode cX5_findNeeds 83 = .ok (.iconst 1, 1) := by decide +kernel
theorem dX5_findNeeds_84 : decode cX5_findNeeds 84 = .ok (.istore 5, 2) := by decide +kernel
theorem dX5_findNeeds_86 : decode cX5_findNeeds 86 = .ok (.iload 5, 2) := by decide +kernel
theorem dX5_findNeeds_88 : decode cX5_findNeeds 88 = .ok (.ifCond .eq 125, 3) := by decide +kernel
theorem dX5_findNeeds_91 : decode cX5_findNeeds 91 = .ok (.iconst 0, 1) := by decide +kernel
theorem dX5_findNeeds_92 : decode cX5_findNeeds 92 = .ok (.istore 5, 2) := by decide +kernel
theorem dX5_findNeeds_94 : decode cX5_findNeeds 94 = .ok (.iconst 0, 1) := by decide +kernel
theorem dX5_findNeeds_95 : decode cX5_findNeeds 95 = .ok (.istore 6, 2) := by decide +kernel
theorem dX5_findNeeds_97 : decode cX5_findNeeds 97 = .ok (.iload 6, 2) := by decide +kernel
theorem dX5_findNeeds_99 : decode cX5_findNeeds 99 = .ok (.aload_n 0, 1) := by decide +kernel
theorem dX5_findNeeds_100 : decode cX5_findNeeds 100 = .ok (.getfield 51, 3) := by decide +kernel
theorem dX5_findNeeds_103 : decode cX5_findNeeds 103 = .ok (.if_icmp .ge 25, 3) := by decide +kernel
theorem dX5_findNeeds_106 : decode cX5_findNeeds 106 = .ok (.aload_n 0, 1) := by decide +kernel
theorem dX5_findNeeds_107 : decode cX5_findNeeds 107 = .ok (.getfield 41, 3) := by decide +kernel
theorem dX5_findNeeds_110 : decode cX5_findNeeds 110 = .ok (.iload 6, 2) := by decide +kernel
theorem dX5_findNeeds_112 : decode cX5_findNeeds 112 = .ok (.aload_n 0, 1) := by decide +kernel
theorem dX5_findNeeds_113 : decode cX5_findNeeds 113 = .ok (.iload 6, 2) := by decide +kernel
theorem dX5_findNeeds_115 : decode cX5_findNeeds 115 = .ok (.iload_n 1, 1) := by decide +kernel
theorem dX5_findNeeds_116 : decode cX5_findNeeds 116 = .ok (.iload_n 2, 1) := by decide +kernel
theorem dX5_findNeeds_117 : decode cX5_findNeeds 117 = .ok (.iload_n 3, 1) := by decide +kernel
theorem dX5_findNeeds_118 : decode cX5_findNeeds 118 = .ok (.invokevirtual 73, 3) := by decide +kernel
theorem dX5_findNeeds_121 : decode cX5_findNeeds 121 = .ok (.iastore, 1) := by decide +kernel
theorem dX5_findNeeds_122 : decode cX5_findNeeds 122 = .ok (.iinc 6 1, 3) := by decide +kernel
theorem dX5_findNeeds_125 : decode cX5_findNeeds 125 = .ok (.goto (-28), 3) := by decide +kernel
theorem dX5_findNeeds_128 : decode cX5_findNeeds 128 = .ok (.iconst 0, 1) := by decide +kernel
theorem dX5_findNeeds_129 : decode cX5_findNeeds 129 = .ok (.istore 6, 2) := by decide +kernel
theorem dX5_findNeeds_131 : decode cX5_findNeeds 131 = .ok (.iload 6, 2) := by decide +kernel
theorem dX5_findNeeds_133 : decode cX5_findNeeds 133 = .ok (.aload_n 0, 1) := by decide +kernel
theorem dX5_findNeeds_134 : decode cX5_findNeeds 134 = .ok (.getfield 51, 3) := by decide +kernel
theorem dX5_findNeeds_137 : decode cX5_findNeeds 137 = .ok (.if_icmp .ge 73, 3) := by decide +kernel
theorem dX5_findNeeds_140 : decode cX5_findNeeds 140 = .ok (.aload_n 0, 1) := by decide +kernel
theorem dX5_findNeeds_141 : decode cX5_findNeeds 141 = .ok (.getfield 41, 3) := by decide +kernel
theorem dX5_findNeeds_144 : decode cX5_findNeeds 144 = .ok (.iload 6, 2) := by decide +kernel
theorem dX5_findNeeds_146 : decode cX5_findNeeds 146 = .ok (.iaload, 1) := by decide +kernel
theorem dX5_findNeeds_147 : decode cX5_findNeeds 147 = .ok (.aload_n 0, 1) := by decide +kernel
theorem dX5_findNeeds_148 : decode cX5_findNeeds 148 = .ok (.getfield 51, 3) := by decide +kernel
theorem dX5_findNeeds_151 : decode cX5_findNeeds 151 = .ok (.iload 4, 2) := by decide +kernel
theorem dX5_findNeeds_153 : decode cX5_findNeeds 153 = .ok (.imul, 1) := by decide +kernel
theorem dX5_findNeeds_154 : decode cX5_findNeeds 154 = .ok (.if_icmp .le 8, 3) := by decide +kernel
theorem dX5_findNeeds_157 : decode cX5_findNeeds 157 = .ok (.ldc 77, 2) := by decide +kernel
theorem dX5_findNeeds_159 : decode cX5_findNeeds 159 = .ok (.goto 10, 3) := by decide +kernel
theorem dX5_findNeeds_162 : decode cX5_findNeeds 162 = .ok (.aload_n 0, 1) := by decide +kernel
theorem dX5_findNeeds_163 : decode cX5_findNeeds 163 = .ok (.getfield 41, 3) := by decide +kernel
theorem dX5_findNeeds_166 : decode cX5_findNeeds 166 = .ok (.iload 6, 2) := by decide +kernel
theorem dX5_findNeeds_168 : decode cX5_findNeeds 168 = .ok (.iaload, 1) := by decide +kernel
theorem dX5_findNeeds_169 : decode cX5_findNeeds 169 = .ok (.istore 7, 2) := by decide +kernel
theorem dX5_findNeeds_171 : decode cX5_findNeeds 171 = .ok (.iload 5, 2) := by decide +kernel
theorem dX5_findNeeds_173 : decode cX5_findNeeds 173 = .ok (.ifCond .ne 15, 3) := by decide +kernel
theorem dX5_findNeeds_176 : decode cX5_findNeeds 176 = .ok (.iload 7, 2) := by decide +kernel
theorem dX5_findNeeds_178 : decode cX5_findNeeds 178 = .ok (.aload_n 0, 1) := by decide +kernel
theorem dX5_findNeeds_179 : decode cX5_findNeeds 179 = .ok (.getfield 38, 3) := by decide +kernel
theorem dX5_findNeeds_182 : decode cX5_findNeeds 182 = .ok (.iload 6, 2) := by decide +kernel
theorem dX5_findNeeds_184 : decode cX5_findNeeds 184 = .ok (.iaload, 1) := by decide +kernel
theorem dX5_findNeeds_185 : decode cX5_findNeeds 185 = .ok (.if_icmp .eq 7, 3) := by decide +kernel
theorem dX5_findNeeds_188 : decode cX5_findNeeds 188 = .ok (.iconst 1, 1) := by decide +kernel
theorem dX5_findNeeds_189 : decode cX5_findNeeds 189 = .ok (.goto 4, 3) := by decide +kernel
theorem dX5_findNeeds_192 : decode cX5_findNeeds 192 = .ok (.iconst 0, 1) := by decide +kernel
theorem dX5_findNeeds_193 : decode cX5_findNeeds 193 = .ok (.istore 5, 2) := by decide +kernel
theorem dX5_findNeeds_195 : decode cX5_findNeeds 195 = .ok (.aload_n 0, 1) := by decide +kernel
theorem dX5_findNeeds_196 : decode cX5_findNeeds 196 = .ok (.getfield 38, 3) := by decide +kernel
theorem dX5_findNeeds_199 : decode cX5_findNeeds 199 = .ok (.iload 6, 2) := by decide +kernel
theorem dX5_findNeeds_201 : decode cX5_findNeeds 201 = .ok (.iload 7, 2) := by decide +kernel
theorem dX5_findNeeds_203 : decode cX5_findNeeds 203 = .ok (.iastore, 1) := by decide +kernel
theorem dX5_findNeeds_204 : decode cX5_findNeeds 204 = .ok (.iinc 6 1, 3) := by decide +kernel
theorem dX5_findNeeds_207 : decode cX5_findNeeds 207 = .ok (.goto (-76), 3) := by decide +kernel
theorem dX5_findNeeds_210 : decode cX5_findNeeds 210 = .ok (.goto (-124), 3) := by decide +kernel
theorem dX5_findNeeds_213 : decode cX5_findNeeds 213 = .ok (.return_, 1) := by decide +kernel
set_option maxRecDepth 20000 in
theorem ggX5_need_X5_leads : GoodIn wsX5_need wsX5_leads := goodIn_r _ [11, 12, 13, 14, 15, 16, 17, 18, 19, 20, 21, 22, 23, 24, 25, 26, 27, 28, 29] (by decide +kernel) (by decide +kernel)
set_option maxRecDepth 20000 in
theorem gX5_need_X5_leads : GoodIn wsX5_need (wsV RX5 57 RX5 yX5_leads wsX5_leads) := goodIn_app (goodIn_of _ (by decide +kernel)) ggX5_need_X5_leads
theorem dX5_need_0 : decode cX5_need 0 = .ok (.aload_n 0, 1) := by decide +kernel
theorem dX5_need_1 : decode cX5_need 1 = .ok (.getfield 7, 3) := by decide +kernel
theorem dX5_need_4 : decode cX5_need 4 = .ok (.iload_n 1, 1) := by decide +kernel
theorem dX5_need_5 : decode cX5_need 5 = .ok (.iaload, 1) := by decide +kernel
theorem dX5_need_6 : decode cX5_need 6 = .ok (.iload 4, 2) := by decide +kernel
theorem dX5_need_8 : decode cX5_need 8 = .ok (.if_icmp .ne 7, 3) := by decide +kernel
theorem dX5_need_11 : decode cX5_need 11 = .ok (.iconst 1, 1) := by decide +kernel
theorem dX5_need_12 : decode cX5_need 12 = .ok (.goto 4, 3) := by decide +kernel
theorem dX5_need_15 : decode cX5_need 15 = .ok (.iconst 0, 1) := by decide +kernel
theorem dX5_need_16 : decode cX5_need 16 = .ok (.istore 5, 2) := by decide +kernel
theorem dX5_need_18 : decode cX5_need 18 = .ok (.iconst (-1), 1) := by decide +kernel
theorem dX5_need_19 : decode cX5_need 19 = .ok (.istore 6, 2) := by decide +kernel
theorem dX5_need_21 : decode cX5_need 21 = .ok (.iconst 0, 1) := by decide +kernel
theorem dX5_need_22 : decode cX5_need 22 = .ok (.istore 7, 2) := by decide +kernel
theorem dX5_need_24 : decode cX5_need 24 = .ok (.iload 7, 2) := by decide +kernel
theorem dX5_need_26 : decode cX5_need 26 = .ok (.aload_n 0, 1) := by decide +kernel
theorem dX5_need_27 : decode cX5_need 27 = .ok (.getfield 54, 3) := by decide +kernel
theorem dX5_need_30 : decode cX5_need 30 = .ok (.if_icmp .ge 119, 3) := by decide +kernel
theorem dX5_need_33 : decode cX5_need 33 = .ok (.aload_n 0, 1) := by decide +kernel
theorem dX5_need_34 : decode cX5_need 34 = .ok (.iload 7, 2) := by decide +kernel
theorem dX5_need_36 : decode cX5_need 36 = .ok (.iload_n 1, 1) := by decide +kernel
theorem dX5_need_37 : decode cX5_need 37 = .ok (.invokevirtual 57, 3) := by decide +kernel
theorem dX5_need_40 : decode cX5_need 40 = .ok (.ifCond .ne 6, 3) := by decide +kernel
theorem dX5_need_43 : decode cX5_need 43 = .ok (.goto 100, 3) := by decide +kernel
theorem dX5_need_46 : decode cX5_need 46 = .ok (.aload_n 0, 1) := by decide +kernel
theorem dX5_need_47 : decode cX5_need 47 = .ok (.getfield 38, 3) := by decide +kernel
theorem dX5_need_50 : decode cX5_need 50 = .ok (.aload_n 0, 1) := by decide +kernel
theorem dX5_need_51 : decode cX5_need 51 = .ok (.getfield 19, 3) := by decide +kernel
theorem dX5_need_54 : decode cX5_need 54 = .ok (.iload 7, 2) := by decide +kernel
theorem dX5_need_56 : decode cX5_need 56 = .ok (.iaload, 1) := by decide +kernel
theorem dX5_need_57 : decode cX5_need 57 = .ok (.iaload, 1) := by decide +kernel
theorem dX5_need_58 : decode cX5_need 58 = .ok (.ldc 77, 2) := by decide +kernel
theorem dX5_need_60 : decode cX5_need 60 = .ok (.if_icmp .ne 8, 3) := by decide +kernel
theorem dX5_need_63 : decode cX5_need 63 = .ok (.ldc 77, 2) := by decide +kernel
theorem dX5_need_65 : decode cX5_need 65 = .ok (.goto 27, 3) := by decide +kernel
theorem dX5_need_68 : decode cX5_need 68 = .ok (.aload_n 0, 1) := by decide +kernel
theorem dX5_need_69 : decode cX5_need 69 = .ok (.getfield 38, 3) := by decide +kernel
theorem dX5_need_72 : decode cX5_need 72 = .ok (.aload_n 0, 1) := by decide +kernel
theorem dX5_need_73 : decode cX5_need 73 = .ok (.getfield 19, 3) := by decide +kernel
theorem dX5_need_76 : decode cX5_need 76 = .ok (.iload 7, 2) := by decide +kernel
theorem dX5_need_78 : decode cX5_need 78 = .ok (.iaload, 1) := by decide +kernel
theorem dX5_need_79 : decode cX5_need 79 = .ok (.iaload, 1) := by decide +kernel
theorem dX5_need_80 : decode cX5_need 80 = .ok (.iload_n 2, 1) := by decide +kernel
theorem dX5_need_81 : decode cX5_need 81 = .ok (.aload_n 0, 1) := by decide +kernel
theorem dX5_need_82 : decode cX5_need 82 = .ok (.getfield 22, 3) := by decide +kernel
theorem dX5_need_85 : decode cX5_need 85 = .ok (.iload 7, 2) := by decide +kernel
theorem dX5_need_87 : decode cX5_need 87 = .ok (.iaload, 1) := by decide +kernel
theorem dX5_need_88 : decode cX5_need 88 = .ok (.imul, 1) := by decide +kernel
theorem dX5_need_89 : decode cX5_need 89 = .ok (.iload_n 3, 1) := by decide +kernel
theorem dX5_need_90 : decode cX5_need 90 = .ok (.isub, 1) := by decide +kernel
theorem dX5_need_91 : decode cX5_need 91 = .ok (.isub, 1) := by decide +kernel
theorem dX5_need_92 : decode cX5_need 92 = .ok (.istore 8, 2) := by decide +kernel
theorem dX5_need_94 : decode cX5_need 94 = .ok (.iload 8, 2) := by decide +kernel
theorem dX5_need_96 : decode cX5_need 96 = .ok (.ifCond .ge 7, 3) := by decide +kernel
theorem dX5_need_99 : decode cX5_need 99 = .ok (.iconst 0, 1) := by decide +kernel
theorem dX5_need_100 : decode cX5_need 100 = .ok (.goto 5, 3) := by decide +kernel
theorem dX5_need_103 : decode cX5_need 103 = .ok (.iload 8, 2) := by decide +kernel
theorem dX5_need_105 : decode cX5_need 105 = .ok (.istore 8, 2) := by decide +kernel
theorem dX5_need_107 : decode cX5_need 107 = .ok (.iload 6, 2) := by decide +kernel
theorem dX5_need_109 : decode cX5_need 109 = .ok (.ifCond .lt 25, 3) := by decide +kernel
theorem dX5_need_112 : decode cX5_need 112 = .ok (.iload 5, 2) := by decide +kernel
theorem dX5_need_114 : decode cX5_need 114 = .ok (.ifCond .eq 13, 3) := by decide +kernel
theorem dX5_need_117 : decode cX5_need 117 = .ok (.iload 8, 2) := by decide +kernel
theorem dX5_need_119 : decode cX5_need 119 = .ok (.iload 6, 2) := by decide +kernel
theorem dX5_need_121 : decode cX5_need 121 = .ok (.if_icmp .ge 18, 3) := by decide +kernel
theorem dX5_need_124 : decode cX5_need 124 = .ok (.goto 10, 3) := by decide +kernel
theorem dX5_need_127 : decode cX5_need 127 = .ok (.iload 8, 2) := by decide +kernel
theorem dX5_need_129 : decode cX5_need 129 = .ok (.iload 6, 2) := by decide +kernel
theorem dX5_need_131 : decode cX5_need 131 = .ok (.if_icmp .le 8, 3) := by decide +kernel
theorem dX5_need_134 : decode cX5_need 134 = .ok (.iload 8, 2) := by decide +kernel
theorem dX5_need_136 : decode cX5_need 136 = .ok (.goto 5, 3) := by decide +kernel
theorem dX5_need_139 : decode cX5_need 139 = .ok (.iload 6, 2) := by decide +kernel
theorem dX5_need_141 : decode cX5_need 141 = .ok (.istore 6, 2) := by decide +kernel
theorem dX5_need_143 : decode cX5_need 143 = .ok (.iinc 7 1, 3) := by decide +kernel
theorem dX5_need_146 : decode cX5_need 146 = .ok (.goto (-122), 3) := by decide +kernel
theorem dX5_need_149 : decode cX5_need 149 = .ok (.iload 6, 2) := by decide +kernel
theorem dX5_need_151 : decode cX5_need 151 = .ok (.ireturn, 1) := by decide +kernel
set_option maxRecDepth 20000 in
theorem ggX5_credit_X5_refuses : GoodIn wsX5_credit wsX5_refuses := goodIn_r _ [7, 8, 9, 10, 11, 6, 12, 13, 14, 15, 16, 17, 18, 19, 20, 21, 22, 23, 24, 37, 38, 39, 40, 41, 42, 43, 44, 45, 46, 47, 48, 49, 50, 51, 52] (by decide +kernel) (by decide +kernel)
set_option maxRecDepth 20000 in
theorem gX5_credit_X5_refuses : GoodIn wsX5_credit (wsV RX5 78 RX5 yX5_refuses wsX5_refuses) := goodIn_app (goodIn_of _ (by decide +kernel)) ggX5_credit_X5_refuses
set_option maxRecDepth 20000 in
theorem ggX5_credit_X5_findNeeds : GoodIn wsX5_credit wsX5_findNeeds := goodIn_r _ [28, 18, 29, 13, 1, 30, 2, 31, 32, 33, 6, 34, 35, 36, 19, 20, 21, 22, 23, 24, 37, 38, 39, 40, 41, 42, 43, 44, 45, 46, 47, 48, 49, 50, 51, 52] (by decide +kernel) (by decide +kernel)
set_option maxRecDepth 20000 in
theorem gX5_credit_X5_findNeeds : GoodIn wsX5_credit (wsV RX5 81 RX5 yX5_findNeeds wsX5_findNeeds) := goodIn_app (goodIn_of _ (by decide +kernel)) ggX5_credit_X5_findNeeds
theorem dX5_credit_0 : decode cX5_credit 0 = .ok (.aload_n 0, 1) := by decide +kernel
theorem dX5_credit_1 : decode cX5_credit 1 = .ok (.iload_n 1, 1) := by decide +kernel
theorem dX5_credit_2 : decode cX5_credit 2 = .ok (.invokevirtual 78, 3) := by decide +kernel
theorem dX5_credit_5 : decode cX5_credit 5 = .ok (.ifCond .eq 5, 3) := by decide +kernel
theorem dX5_credit_8 : decode cX5_credit 8 = .ok (.iconst 0, 1) := by decide +kernel
theorem dX5_credit_9 : decode cX5_credit 9 = .ok (.ireturn, 1) := by decide +kernel
theorem dX5_credit_10 : decode cX5_credit 10 = .ok (.aload_n 0, 1) := by decide +kernel
theorem dX5_credit_11 : decode cX5_credit 11 = .ok (.iconst 1, 1) := by decide +kernel
theorem dX5_credit_12 : decode cX5_credit 12 = .ok (.iconst 0, 1) := by decide +kernel
theorem dX5_credit_13 : decode cX5_credit 13 = .ok (.iconst 0, 1) := by decide +kernel
theorem dX5_credit_14 : decode cX5_credit 14 = .ok (.invokevirtual 81, 3) := by decide +kernel
theorem dX5_credit_17 : decode cX5_credit 17 = .ok (.aload_n 0, 1) := by decide +kernel
theorem dX5_credit_18 : decode cX5_credit 18 = .ok (.getfield 38, 3) := by decide +kernel
theorem dX5_credit_21 : decode cX5_credit 21 = .ok (.iload_n 1, 1) := by decide +kernel
theorem dX5_credit_22 : decode cX5_credit 22 = .ok (.iaload, 1) := by decide +kernel
theorem dX5_credit_23 : decode cX5_credit 23 = .ok (.ldc 77, 2) := by decide +kernel
theorem dX5_credit_25 : decode cX5_credit 25 = .ok (.if_icmp .ne 7, 3) := by decide +kernel
theorem dX5_credit_28 : decode cX5_credit 28 = .ok (.iconst (-1), 1) := by decide +kernel
theorem dX5_credit_29 : decode cX5_credit 29 = .ok (.goto 9, 3) := by decide +kernel
theorem dX5_credit_32 : decode cX5_credit 32 = .ok (.aload_n 0, 1) := by decide +kernel
theorem dX5_credit_33 : decode cX5_credit 33 = .ok (.getfield 38, 3) := by decide +kernel
theorem dX5_credit_36 : decode cX5_credit 36 = .ok (.iload_n 1, 1) := by decide +kernel
theorem dX5_credit_37 : decode cX5_credit 37 = .ok (.iaload, 1) := by decide +kernel
theorem dX5_credit_38 : decode cX5_credit 38 = .ok (.ireturn, 1) := by decide +kernel
theorem dX5_common_0 : decode cX5_common 0 = .ok (.iload_n 0, 1) := by decide +kernel
theorem dX5_common_1 : decode cX5_common 1 = .ok (.istore_n 2, 1) := by decide +kernel
theorem dX5_common_2 : decode cX5_common 2 = .ok (.iload_n 1, 1) := by decide +kernel
theorem dX5_common_3 : decode cX5_common 3 = .ok (.istore_n 3, 1) := by decide +kernel
theorem dX5_common_4 : decode cX5_common 4 = .ok (.iload_n 3, 1) := by decide +kernel
theorem dX5_common_5 : decode cX5_common 5 = .ok (.ifCond .eq 16, 3) := by decide +kernel
theorem dX5_common_8 : decode cX5_common 8 = .ok (.iload_n 2, 1) := by decide +kernel
theorem dX5_common_9 : decode cX5_common 9 = .ok (.iload_n 3, 1) := by decide +kernel
theorem dX5_common_10 : decode cX5_common 10 = .ok (.irem, 1) := by decide +kernel
theorem dX5_common_11 : decode cX5_common 11 = .ok (.istore 4, 2) := by decide +kernel
theorem dX5_common_13 : decode cX5_common 13 = .ok (.iload_n 3, 1) := by decide +kernel
theorem dX5_common_14 : decode cX5_common 14 = .ok (.istore_n 2, 1) := by decide +kernel
theorem dX5_common_15 : decode cX5_common 15 = .ok (.iload 4, 2) := by decide +kernel
theorem dX5_common_17 : decode cX5_common 17 = .ok (.istore_n 3, 1) := by decide +kernel
theorem dX5_common_18 : decode cX5_common 18 = .ok (.goto (-14), 3) := by decide +kernel
theorem dX5_common_21 : decode cX5_common 21 = .ok (.iload_n 2, 1) := by decide +kernel
theorem dX5_common_22 : decode cX5_common 22 = .ok (.ireturn, 1) := by decide +kernel
set_option maxRecDepth 20000 in
theorem ggX5_findValues_X5_leads : GoodIn wsX5_findValues wsX5_leads := goodIn_r _ [15, 16, 17, 27, 28, 29, 30, 31, 32, 33, 34, 35, 36, 37, 38, 39, 40, 41, 42] (by decide +kernel) (by decide +kernel)
set_option maxRecDepth 20000 in
theorem gX5_findValues_X5_leads : GoodIn wsX5_findValues (wsV RX5 57 RX5 yX5_leads wsX5_leads) := goodIn_app (goodIn_of _ (by decide +kernel)) ggX5_findValues_X5_leads
set_option maxRecDepth 20000 in
theorem ggX5_findValues_X5_nearest : GoodIn wsX5_findValues wsX5_nearest := goodIn_r _ [21, 5, 22, 23, 24, 25, 14, 26, 27, 28, 29, 30, 31, 32, 33, 34, 35, 36, 37, 38, 39, 40, 41, 42] (by decide +kernel) (by decide +kernel)
set_option maxRecDepth 20000 in
theorem gX5_findValues_X5_nearest : GoodIn wsX5_findValues (wsV RX5 89 RX5 yX5_nearest wsX5_nearest) := goodIn_app (goodIn_of _ (by decide +kernel)) ggX5_findValues_X5_nearest
theorem dX5_findValues_0 : decode cX5_findValues 0 = .ok (.aload_n 0, 1) := by decide +kernel
theorem dX5_findValues_1 : decode cX5_findValues 1 = .ok (.getfield 61, 3) := by decide +kernel
theorem dX5_findValues_4 : decode cX5_findValues 4 = .ok (.ifCond .eq 4, 3) := by decide +kernel
theorem dX5_findValues_7 : decode cX5_findValues 7 = .ok (.return_, 1) := by decide +kernel
theorem dX5_findValues_8 : decode cX5_findValues 8 = .ok (.aload_n 0, 1) := by decide +kernel
theorem dX5_findValues_9 : decode cX5_findValues 9 = .ok (.iconst 1, 1) := by decide +kernel
theorem dX5_findValues_10 : decode cX5_findValues 10 = .ok (.putfield 61, 3) := by decide +kernel
theorem dX5_findValues_13 : decode cX5_findValues 13 = .ok (.aload_n 0, 1) := by decide +kernel
theorem dX5_findValues_14 : decode cX5_findValues 14 = .ok (.getfield 51, 3) := by decide +kernel
theorem dX5_findValues_17 : decode cX5_findValues 17 = .ok (.istore_n 1, 1) := by decide +kernel
theorem dX5_findValues_18 : decode cX5_findValues 18 = .ok (.ldc2_w 85, 3) := by decide +kernel
theorem dX5_findValues_21 : decode cX5_findValues 21 = .ok (.iload_n 1, 1) := by decide +kernel
theorem dX5_findValues_22 : decode cX5_findValues 22 = .ok (.i2l, 1) := by decide +kernel
theorem dX5_findValues_23 : decode cX5_findValues 23 = .ok (.lmul, 1) := by decide +kernel
theorem dX5_findValues_24 : decode cX5_findValues 24 = .ok (.iload_n 1, 1) := by decide +kernel
theorem dX5_findValues_25 : decode cX5_findValues 25 = .ok (.i2l, 1) := by decide +kernel
theorem dX5_findValues_26 : decode cX5_findValues 26 = .ok (.lmul, 1) := by decide +kernel
theorem dX5_findValues_27 : decode cX5_findValues 27 = .ok (.iload_n 1, 1) := by decide +kernel
theorem dX5_findValues_28 : decode cX5_findValues 28 = .ok (.i2l, 1) := by decide +kernel
theorem dX5_findValues_29 : decode cX5_findValues 29 = .ok (.lmul, 1) := by decide +kernel
theorem dX5_findValues_30 : decode cX5_findValues 30 = .ok (.ldc2_w 87, 3) := by decide +kernel
theorem dX5_findValues_33 : decode cX5_findValues 33 = .ok (.lmul, 1) := by decide +kernel
theorem dX5_findValues_34 : decode cX5_findValues 34 = .ok (.lconst 1, 1) := by decide +kernel
theorem dX5_findValues_35 : decode cX5_findValues 35 = .ok (.ladd, 1) := by decide +kernel
theorem dX5_findValues_36 : decode cX5_findValues 36 = .ok (.lstore_n 2, 1) := by decide +kernel
theorem dX5_findValues_37 : decode cX5_findValues 37 = .ok (.iconst 0, 1) := by decide +kernel
theorem dX5_findValues_38 : decode cX5_findValues 38 = .ok (.istore 4, 2) := by decide +kernel
theorem dX5_findValues_40 : decode cX5_findValues 40 = .ok (.iload 4, 2) := by decide +kernel
theorem dX5_findValues_42 : decode cX5_findValues 42 = .ok (.iload_n 1, 1) := by decide +kernel
theorem dX5_findValues_43 : decode cX5_findValues 43 = .ok (.if_icmp .ge 17, 3) := by decide +kernel
theorem dX5_findValues_46 : decode cX5_findValues 46 = .ok (.aload_n 0, 1) := by decide +kernel
theorem dX5_findValues_47 : decode cX5_findValues 47 = .ok (.getfield 31, 3) := by decide +kernel
theorem dX5_findValues_50 : decode cX5_findValues 50 = .ok (.iload 4, 2) := by decide +kernel
theorem dX5_findValues_52 : decode cX5_findValues 52 = .ok (.lconst 0, 1) := by decide +kernel
theorem dX5_findValues_53 : decode cX5_findValues 53 = .ok (.lastore, 1) := by decide +kernel
theorem dX5_findValues_54 : decode cX5_findValues 54 = .ok (.iinc 4 1, 3) := by decide +kernel
theorem dX5_findValues_57 : decode cX5_findValues 57 = .ok (.goto (-17), 3) := by decide +kernel
theorem dX5_findValues_60 : decode cX5_findValues 60 = .ok (.lconst 0, 1) := by decide +kernel
theorem dX5_findValues_61 : decode cX5_findValues 61 = .ok (.lstore 4, 2) := by decide +kernel
theorem dX5_findValues_63 : decode cX5_findValues 63 = .ok (.lload 4, 2) := by decide +kernel
theorem dX5_findValues_65 : decode cX5_findValues 65 = .ok (.lload_n 2, 1) := by decide +kernel
theorem dX5_findValues_66 : decode cX5_findValues 66 = .ok (.lcmp, 1) := by decide +kernel
theorem dX5_findValues_67 : decode cX5_findValues 67 = .ok (.ifCond .ge 167, 3) := by decide +kernel
theorem dX5_findValues_70 : decode cX5_findValues 70 = .ok (.iconst 0, 1) := by decide +kernel
theorem dX5_findValues_71 : decode cX5_findValues 71 = .ok (.istore 6, 2) := by decide +kernel
theorem dX5_findValues_73 : decode cX5_findValues 73 = .ok (.iload 6, 2) := by decide +kernel
theorem dX5_findValues_75 : decode cX5_findValues 75 = .ok (.iload_n 1, 1) := by decide +kernel
theorem dX5_findValues_76 : decode cX5_findValues 76 = .ok (.if_icmp .ge 120, 3) := by decide +kernel
theorem dX5_findValues_79 : decode cX5_findValues 79 = .ok (.iconst 0, 1) := by decide +kernel
theorem dX5_findValues_80 : decode cX5_findValues 80 = .ok (.istore 7, 2) := by decide +kernel
theorem dX5_findValues_82 : decode cX5_findValues 82 = .ok (.lconst 0, 1) := by decide +kernel
theorem dX5_findValues_83 : decode cX5_findValues 83 = .ok (.lstore 8, 2) := by decide +kernel
theorem dX5_findValues_85 : decode cX5_findValues 85 = .ok (.iconst 0, 1) := by decide +kernel
theorem dX5_findValues_86 : decode cX5_findValues 86 = .ok (.istore 10, 2) := by decide +kernel
theorem dX5_findValues_88 : decode cX5_findValues 88 = .ok (.iload 10, 2) := by decide +kernel
theorem dX5_findValues_90 : decode cX5_findValues 90 = .ok (.aload_n 0, 1) := by decide +kernel
theorem dX5_findValues_91 : decode cX5_findValues 91 = .ok (.getfield 54, 3) := by decide +kernel
theorem dX5_findValues_94 : decode cX5_findValues 94 = .ok (.if_icmp .ge 87, 3) := by decide +kernel
theorem dX5_findValues_97 : decode cX5_findValues 97 = .ok (.aload_n 0, 1) := by decide +kernel
theorem dX5_findValues_98 : decode cX5_findValues 98 = .ok (.iload 10, 2) := by decide +kernel
theorem dX5_findValues_100 : decode cX5_findValues 100 = .ok (.iload 6, 2) := by decide +kernel
theorem dX5_findValues_102 : decode cX5_findValues 102 = .ok (.invokevirtual 57, 3) := by decide +kernel
theorem dX5_findValues_105 : decode cX5_findValues 105 = .ok (.ifCond .ne 6, 3) := by decide +kernel
theorem dX5_findValues_108 : decode cX5_findValues 108 = .ok (.goto 67, 3) := by decide +kernel
theorem dX5_findValues_111 : decode cX5_findValues 111 = .ok (.aload_n 0, 1) := by decide +kernel
theorem dX5_findValues_112 : decode cX5_findValues 112 = .ok (.getfield 22, 3) := by decide +kernel
theorem dX5_findValues_115 : decode cX5_findValues 115 = .ok (.iload 10, 2) := by decide +kernel
theorem dX5_findValues_117 : decode cX5_findValues 117 = .ok (.iaload, 1) := by decide +kernel
theorem dX5_findValues_118 : decode cX5_findValues 118 = .ok (.i2l, 1) := by decide +kernel
theorem dX5_findValues_119 : decode cX5_findValues 119 = .ok (.aload_n 0, 1) := by decide +kernel
theorem dX5_findValues_120 : decode cX5_findValues 120 = .ok (.getfield 31, 3) := by decide +kernel
theorem dX5_findValues_123 : decode cX5_findValues 123 = .ok (.aload_n 0, 1) := by decide +kernel
theorem dX5_findValues_124 : decode cX5_findValues 124 = .ok (.getfield 19, 3) := by decide +kernel
theorem dX5_findValues_127 : decode cX5_findValues 127 = .ok (.iload 10, 2) := by decide +kernel
theorem dX5_findValues_129 : decode cX5_findValues 129 = .ok (.iaload, 1) := by decide +kernel
theorem dX5_findValues_130 : decode cX5_findValues 130 = .ok (.laload, 1) := by decide +kernel
theorem dX5_findValues_131 : decode cX5_findValues 131 = .ok (.ladd, 1) := by decide +kernel
theorem dX5_findValues_132 : decode cX5_findValues 132 = .ok (.lstore 11, 2) := by decide +kernel
theorem dX5_findValues_134 : decode cX5_findValues 134 = .ok (.iload 7, 2) := by decide +kernel
theorem dX5_findValues_136 : decode cX5_findValues 136 = .ok (.ifCond .eq 32, 3) := by decide +kernel
theorem dX5_findValues_139 : decode cX5_findValues 139 = .ok (.aload_n 0, 1) := by decide +kernel
theorem dX5_findValues_140 : decode cX5_findValues 140 = .ok (.getfield 7, 3) := by decide +kernel
theorem dX5_findValues_143 : decode cX5_findValues 143 = .ok (.iload 6, 2) := by decide +kernel
theorem dX5_findValues_145 : decode cX5_findValues 145 = .ok (.iaload, 1) := by decide +kernel
theorem dX5_findValues_146 : decode cX5_findValues 146 = .ok (.ifCond .ne 14, 3) := by decide +kernel
theorem dX5_findValues_149 : decode cX5_findValues 149 = .ok (.lload 11, 2) := by decide +kernel
theorem dX5_findValues_151 : decode cX5_findValues 151 = .ok (.lload 8, 2) := by decide +kernel
theorem dX5_findValues_153 : decode cX5_findValues 153 = .ok (.lcmp, 1) := by decide +kernel
theorem dX5_findValues_154 : decode cX5_findValues 154 = .ok (.ifCond .le 18, 3) := by decide +kernel
theorem dX5_findValues_157 : decode cX5_findValues 157 = .ok (.goto 11, 3) := by decide +kernel
theorem dX5_findValues_160 : decode cX5_findValues 160 = .ok (.lload 11, 2) := by decide +kernel
theorem dX5_findValues_162 : decode cX5_findValues 162 = .ok (.lload 8, 2) := by decide +kernel
theorem dX5_findValues_164 : decode cX5_findValues 164 = .ok (.lcmp, 1) := by decide +kernel
theorem dX5_findValues_165 : decode cX5_findValues 165 = .ok (.ifCond .ge 7, 3) := by decide +kernel
theorem dX5_findValues_168 : decode cX5_findValues 168 = .ok (.lload 11, 2) := by decide +kernel
theorem dX5_findValues_170 : decode cX5_findValues 170 = .ok (.lstore 8, 2) := by decide +kernel
theorem dX5_findValues_172 : decode cX5_findValues 172 = .ok (.iconst 1, 1) := by decide +kernel
theorem dX5_findValues_173 : decode cX5_findValues 173 = .ok (.istore 7, 2) := by decide +kernel
theorem dX5_findValues_175 : decode cX5_findValues 175 = .ok (.iinc 10 1, 3) := by decide +kernel
theorem dX5_findValues_178 : decode cX5_findValues 178 = .ok (.goto (-90), 3) := by decide +kernel
theorem dX5_findValues_181 : decode cX5_findValues 181 = .ok (.aload_n 0, 1) := by decide +kernel
theorem dX5_findValues_182 : decode cX5_findValues 182 = .ok (.getfield 35, 3) := by decide +kernel
theorem dX5_findValues_185 : decode cX5_findValues 185 = .ok (.iload 6, 2) := by decide +kernel
theorem dX5_findValues_187 : decode cX5_findValues 187 = .ok (.lload 8, 2) := by decide +kernel
theorem dX5_findValues_189 : decode cX5_findValues 189 = .ok (.lastore, 1) := by decide +kernel
theorem dX5_findValues_190 : decode cX5_findValues 190 = .ok (.iinc 6 1, 3) := by decide +kernel
theorem dX5_findValues_193 : decode cX5_findValues 193 = .ok (.goto (-120), 3) := by decide +kernel
theorem dX5_findValues_196 : decode cX5_findValues 196 = .ok (.iconst 0, 1) := by decide +kernel
theorem dX5_findValues_197 : decode cX5_findValues 197 = .ok (.istore 6, 2) := by decide +kernel
theorem dX5_findValues_199 : decode cX5_findValues 199 = .ok (.iload 6, 2) := by decide +kernel
theorem dX5_findValues_201 : decode cX5_findValues 201 = .ok (.iload_n 1, 1) := by decide +kernel
theorem dX5_findValues_202 : decode cX5_findValues 202 = .ok (.if_icmp .ge 23, 3) := by decide +kernel
theorem dX5_findValues_205 : decode cX5_findValues 205 = .ok (.aload_n 0, 1) := by decide +kernel
theorem dX5_findValues_206 : decode cX5_findValues 206 = .ok (.getfield 31, 3) := by decide +kernel
theorem dX5_findValues_209 : decode cX5_findValues 209 = .ok (.iload 6, 2) := by decide +kernel
theorem dX5_findValues_211 : decode cX5_findValues 211 = .ok (.aload_n 0, 1) := by decide +kernel
theorem dX5_findValues_212 : decode cX5_findValues 212 = .ok (.getfield 35, 3) := by decide +kernel
theorem dX5_findValues_215 : decode cX5_findValues 215 = .ok (.iload 6, 2) := by decide +kernel
theorem dX5_findValues_217 : decode cX5_findValues 217 = .ok (.laload, 1) := by decide +kernel
theorem dX5_findValues_218 : decode cX5_findValues 218 = .ok (.lastore, 1) := by decide +kernel
theorem dX5_findValues_219 : decode cX5_findValues 219 = .ok (.iinc 6 1, 3) := by decide +kernel
theorem dX5_findValues_222 : decode cX5_findValues 222 = .ok (.goto (-23), 3) := by decide +kernel
theorem dX5_findValues_225 : decode cX5_findValues 225 = .ok (.lload 4, 2) := by decide +kernel
theorem dX5_findValues_227 : decode cX5_findValues 227 = .ok (.lconst 1, 1) := by decide +kernel
theorem dX5_findValues_228 : decode cX5_findValues 228 = .ok (.ladd, 1) := by decide +kernel
theorem dX5_findValues_229 : decode cX5_findValues 229 = .ok (.lstore 4, 2) := by decide +kernel
theorem dX5_findValues_231 : decode cX5_findValues 231 = .ok (.goto (-168), 3) := by decide +kernel
theorem dX5_findValues_234 : decode cX5_findValues 234 = .ok (.iconst 0, 1) := by decide +kernel
theorem dX5_findValues_235 : decode cX5_findValues 235 = .ok (.istore 4, 2) := by decide +kernel
theorem dX5_findValues_237 : decode cX5_findValues 237 = .ok (.iload 4, 2) := by decide +kernel
theorem dX5_findValues_239 : decode cX5_findValues 239 = .ok (.iload_n 1, 1) := by decide +kernel
theorem dX5_findValues_240 : decode cX5_findValues 240 = .ok (.if_icmp .ge 17, 3) := by decide +kernel
theorem dX5_findValues_243 : decode cX5_findValues 243 = .ok (.aload_n 0, 1) := by decide +kernel
theorem dX5_findValues_244 : decode cX5_findValues 244 = .ok (.iload 4, 2) := by decide +kernel
theorem dX5_findValues_246 : decode cX5_findValues 246 = .ok (.lload_n 2, 1) := by decide +kernel
theorem dX5_findValues_247 : decode cX5_findValues 247 = .ok (.iload_n 1, 1) := by decide +kernel
theorem dX5_findValues_248 : decode cX5_findValues 248 = .ok (.invokevirtual 89, 3) := by decide +kernel
theorem dX5_findValues_251 : decode cX5_findValues 251 = .ok (.iinc 4 1, 3) := by decide +kernel
theorem dX5_findValues_254 : decode cX5_findValues 254 = .ok (.goto (-17), 3) := by decide +kernel
theorem dX5_findValues_257 : decode cX5_findValues 257 = .ok (.return_, 1) := by decide +kernel
set_option maxRecDepth 20000 in
theorem ggX5_nearest_X5_common : GoodIn wsX5_nearest wsX5_common := goodIn_r _ [7] (by decide +kernel) (by decide +kernel)
set_option maxRecDepth 20000 in
theorem gX5_nearest_X5_common : GoodIn wsX5_nearest (va_wsS RX5 93 yX5_common wsX5_common) := goodIn_app (goodIn_of _ (by decide +kernel)) ggX5_nearest_X5_common
theorem dX5_nearest_0 : decode cX5_nearest 0 = .ok (.lconst 0, 1) := by decide +kernel
theorem dX5_nearest_1 : decode cX5_nearest 1 = .ok (.lstore 5, 2) := by decide +kernel
theorem dX5_nearest_3 : decode cX5_nearest 3 = .ok (.iconst 0, 1) := by decide +kernel
theorem dX5_nearest_4 : decode cX5_nearest 4 = .ok (.istore 7, 2) := by decide +kernel
theorem dX5_nearest_6 : decode cX5_nearest 6 = .ok (.iconst 1, 1) := by decide +kernel
theorem dX5_nearest_7 : decode cX5_nearest 7 = .ok (.istore 8, 2) := by decide +kernel
theorem dX5_nearest_9 : decode cX5_nearest 9 = .ok (.iload 8, 2) := by decide +kernel
theorem dX5_nearest_11 : decode cX5_nearest 11 = .ok (.iload 4, 2) := by decide +kernel
theorem dX5_nearest_13 : decode cX5_nearest 13 = .ok (.if_icmp .gt 143, 3) := by decide +kernel
theorem dX5_nearest_16 : decode cX5_nearest 16 = .ok (.bipush (-9), 2) := by decide +kernel
theorem dX5_nearest_18 : decode cX5_nearest 18 = .ok (.iload 8, 2) := by decide +kernel
theorem dX5_nearest_20 : decode cX5_nearest 20 = .ok (.imul, 1) := by decide +kernel
theorem dX5_nearest_21 : decode cX5_nearest 21 = .ok (.istore 9, 2) := by decide +kernel
theorem dX5_nearest_23 : decode cX5_nearest 23 = .ok (.iload 9, 2) := by decide +kernel
theorem dX5_nearest_25 : decode cX5_nearest 25 = .ok (.bipush 9, 2) := by decide +kernel
theorem dX5_nearest_27 : decode cX5_nearest 27 = .ok (.iload 8, 2) := by decide +kernel
theorem dX5_nearest_29 : decode cX5_nearest 29 = .ok (.imul, 1) := by decide +kernel
theorem dX5_nearest_30 : decode cX5_nearest 30 = .ok (.if_icmp .gt 120, 3) := by decide +kernel
theorem dX5_nearest_33 : decode cX5_nearest 33 = .ok (.iload 9, 2) := by decide +kernel
theorem dX5_nearest_35 : decode cX5_nearest 35 = .ok (.ifCond .ge 9, 3) := by decide +kernel
theorem dX5_nearest_38 : decode cX5_nearest 38 = .ok (.iload 9, 2) := by decide +kernel
theorem dX5_nearest_40 : decode cX5_nearest 40 = .ok (.ineg, 1) := by decide +kernel
theorem dX5_nearest_41 : decode cX5_nearest 41 = .ok (.goto 5, 3) := by decide +kernel
theorem dX5_nearest_44 : decode cX5_nearest 44 = .ok (.iload 9, 2) := by decide +kernel
theorem dX5_nearest_46 : decode cX5_nearest 46 = .ok (.iload 8, 2) := by decide +kernel
theorem dX5_nearest_48 : decode cX5_nearest 48 = .ok (.invokestatic 93, 3) := by decide +kernel
theorem dX5_nearest_51 : decode cX5_nearest 51 = .ok (.iconst 1, 1) := by decide +kernel
theorem dX5_nearest_52 : decode cX5_nearest 52 = .ok (.if_icmp .eq 6, 3) := by decide +kernel
theorem dX5_nearest_55 : decode cX5_nearest 55 = .ok (.goto 89, 3) := by decide +kernel
theorem dX5_nearest_58 : decode cX5_nearest 58 = .ok (.iload 9, 2) := by decide +kernel
theorem dX5_nearest_60 : decode cX5_nearest 60 = .ok (.i2l, 1) := by decide +kernel
theorem dX5_nearest_61 : decode cX5_nearest 61 = .ok (.lload_n 2, 1) := by decide +kernel
theorem dX5_nearest_62 : decode cX5_nearest 62 = .ok (.lmul, 1) := by decide +kernel
theorem dX5_nearest_63 : decode cX5_nearest 63 = .ok (.aload_n 0, 1) := by decide +kernel
theorem dX5_nearest_64 : decode cX5_nearest 64 = .ok (.getfield 31, 3) := by decide +kernel
theorem dX5_nearest_67 : decode cX5_nearest 67 = .ok (.iload_n 1, 1) := by decide +kernel
theorem dX5_nearest_68 : decode cX5_nearest 68 = .ok (.laload, 1) := by decide +kernel
theorem dX5_nearest_69 : decode cX5_nearest 69 = .ok (.iload 8, 2) := by decide +kernel
theorem dX5_nearest_71 : decode cX5_nearest 71 = .ok (.i2l, 1) := by decide +kernel
theorem dX5_nearest_72 : decode cX5_nearest 72 = .ok (.lmul, 1) := by decide +kernel
theorem dX5_nearest_73 : decode cX5_nearest 73 = .ok (.lsub, 1) := by decide +kernel
theorem dX5_nearest_74 : decode cX5_nearest 74 = .ok (.lstore 10, 2) := by decide +kernel
theorem dX5_nearest_76 : decode cX5_nearest 76 = .ok (.lload 10, 2) := by decide +kernel
theorem dX5_nearest_78 : decode cX5_nearest 78 = .ok (.lconst 0, 1) := by decide +kernel
theorem dX5_nearest_79 : decode cX5_nearest 79 = .ok (.lcmp, 1) := by decide +kernel
theorem dX5_nearest_80 : decode cX5_nearest 80 = .ok (.ifCond .ge 9, 3) := by decide +kernel
theorem dX5_nearest_83 : decode cX5_nearest 83 = .ok (.lload 10, 2) := by decide +kernel
theorem dX5_nearest_85 : decode cX5_nearest 85 = .ok (.lneg, 1) := by decide +kernel
theorem dX5_nearest_86 : decode cX5_nearest 86 = .ok (.goto 5, 3) := by decide +kernel
theorem dX5_nearest_89 : decode cX5_nearest 89 = .ok (.lload 10, 2) := by decide +kernel
theorem dX5_nearest_91 : decode cX5_nearest 91 = .ok (.lstore 10, 2) := by decide +kernel
theorem dX5_nearest_93 : decode cX5_nearest 93 = .ok (.iload 7, 2) := by decide +kernel
theorem dX5_nearest_95 : decode cX5_nearest 95 = .ok (.ifCond .eq 26, 3) := by decide +kernel
theorem dX5_nearest_98 : decode cX5_nearest 98 = .ok (.lload 10, 2) := by decide +kernel
theorem dX5_nearest_100 : decode cX5_nearest 100 = .ok (.aload_n 0, 1) := by decide +kernel
theorem dX5_nearest_101 : decode cX5_nearest 101 = .ok (.getfield 28, 3) := by decide +kernel
theorem dX5_nearest_104 : decode cX5_nearest 104 = .ok (.iload_n 1, 1) := by decide +kernel
theorem dX5_nearest_105 : decode cX5_nearest 105 = .ok (.iaload, 1) := by decide +kernel
theorem dX5_nearest_106 : decode cX5_nearest 106 = .ok (.i2l, 1) := by decide +kernel
theorem dX5_nearest_107 : decode cX5_nearest 107 = .ok (.lmul, 1) := by decide +kernel
theorem dX5_nearest_108 : decode cX5_nearest 108 = .ok (.lload 5, 2) := by decide +kernel
theorem dX5_nearest_110 : decode cX5_nearest 110 = .ok (.iload 8, 2) := by decide +kernel
theorem dX5_nearest_112 : decode cX5_nearest 112 = .ok (.i2l, 1) := by decide +kernel
theorem dX5_nearest_113 : decode cX5_nearest 113 = .ok (.lmul, 1) := by decide +kernel
theorem dX5_nearest_114 : decode cX5_nearest 114 = .ok (.lcmp, 1) := by decide +kernel
theorem dX5_nearest_115 : decode cX5_nearest 115 = .ok (.ifCond .lt 6, 3) := by decide +kernel
theorem dX5_nearest_118 : decode cX5_nearest 118 = .ok (.goto 26, 3) := by decide +kernel
theorem dX5_nearest_121 : decode cX5_nearest 121 = .ok (.iconst 1, 1) := by decide +kernel
theorem dX5_nearest_122 : decode cX5_nearest 122 = .ok (.istore 7, 2) := by decide +kernel
theorem dX5_nearest_124 : decode cX5_nearest 124 = .ok (.lload 10, 2) := by decide +kernel
theorem dX5_nearest_126 : decode cX5_nearest 126 = .ok (.lstore 5, 2) := by decide +kernel
theorem dX5_nearest_128 : decode cX5_nearest 128 = .ok (.aload_n 0, 1) := by decide +kernel
theorem dX5_nearest_129 : decode cX5_nearest 129 = .ok (.getfield 25, 3) := by decide +kernel
theorem dX5_nearest_132 : decode cX5_nearest 132 = .ok (.iload_n 1, 1) := by decide +kernel
theorem dX5_nearest_133 : decode cX5_nearest 133 = .ok (.iload 9, 2) := by decide +kernel
theorem dX5_nearest_135 : decode cX5_nearest 135 = .ok (.iastore, 1) := by decide +kernel
theorem dX5_nearest_136 : decode cX5_nearest 136 = .ok (.aload_n 0, 1) := by decide +kernel
theorem dX5_nearest_137 : decode cX5_nearest 137 = .ok (.getfield 28, 3) := by decide +kernel
theorem dX5_nearest_140 : decode cX5_nearest 140 = .ok (.iload_n 1, 1) := by decide +kernel
theorem dX5_nearest_141 : decode cX5_nearest 141 = .ok (.iload 8, 2) := by decide +kernel
theorem dX5_nearest_143 : decode cX5_nearest 143 = .ok (.iastore, 1) := by decide +kernel
theorem dX5_nearest_144 : decode cX5_nearest 144 = .ok (.iinc 9 1, 3) := by decide +kernel
theorem dX5_nearest_147 : decode cX5_nearest 147 = .ok (.goto (-124), 3) := by decide +kernel
theorem dX5_nearest_150 : decode cX5_nearest 150 = .ok (.iinc 8 1, 3) := by decide +kernel
theorem dX5_nearest_153 : decode cX5_nearest 153 = .ok (.goto (-144), 3) := by decide +kernel
theorem dX5_nearest_156 : decode cX5_nearest 156 = .ok (.return_, 1) := by decide +kernel
set_option maxRecDepth 20000 in
theorem ggX5_reaches_X5_isVertex : GoodIn wsX5_reaches wsX5_isVertex := goodIn_r _ [8, 9, 40, 41, 42, 43, 44, 45, 46, 47, 48, 49, 50, 51, 52, 53, 54, 55] (by decide +kernel) (by decide +kernel)
set_option maxRecDepth 20000 in
theorem gX5_reaches_X5_isVertex : GoodIn wsX5_reaches (wsV RX5 65 RX5 yX5_isVertex wsX5_isVertex) := goodIn_app (goodIn_of _ (by decide +kernel)) ggX5_reaches_X5_isVertex
set_option maxRecDepth 20000 in
theorem ggX5_reaches_X5_isComplete : GoodIn wsX5_reaches wsX5_isComplete := goodIn_r _ [13, 9, 14, 15, 16, 17, 7, 18, 19, 20, 40, 41, 42, 43, 44, 45, 46, 47, 48, 49, 50, 51, 52, 53, 54, 55] (by decide +kernel) (by decide +kernel)
set_option maxRecDepth 20000 in
theorem gX5_reaches_X5_isComplete : GoodIn wsX5_reaches (wsV RX5 69 RX5 yX5_isComplete wsX5_isComplete) := goodIn_app (goodIn_of _ (by decide +kernel)) ggX5_reaches_X5_isComplete
set_option maxRecDepth 20000 in
theorem ggX5_reaches_X5_findValues : GoodIn wsX5_reaches wsX5_findValues := goodIn_r _ [24, 25, 9, 26, 27, 28, 14, 29, 30, 31, 32, 15, 16, 17, 7, 18, 19, 20, 33, 34, 35, 36, 3, 2, 37, 38, 39, 40, 41, 42, 43, 44, 45, 46, 47, 48, 49, 50, 51, 52, 53, 54, 55] (by decide +kernel) (by decide +kernel)
set_option maxRecDepth 20000 in
theorem gX5_reaches_X5_findValues : GoodIn wsX5_reaches (wsV RX5 97 RX5 yX5_findValues wsX5_findValues) := goodIn_app (goodIn_of _ (by decide +kernel)) ggX5_reaches_X5_findValues
theorem dX5_reaches_0 : decode cX5_reaches 0 = .ok (.aload_n 0, 1) := by decide +kernel
theorem dX5_reaches_1 : decode cX5_reaches 1 = .ok (.aload_n 0, 1) := by decide +kernel
theorem dX5_reaches_2 : decode cX5_reaches 2 = .ok (.iload_n 1, 1) := by decide +kernel
theorem dX5_reaches_3 : decode cX5_reaches 3 = .ok (.invokevirtual 65, 3) := by decide +kernel
theorem dX5_reaches_6 : decode cX5_reaches 6 = .ok (.ifCond .eq 26, 3) := by decide +kernel
theorem dX5_reaches_9 : decode cX5_reaches 9 = .ok (.iload_n 2, 1) := by decide +kernel
theorem dX5_reaches_10 : decode cX5_reaches 10 = .ok (.bipush (-99), 2) := by decide +kernel
theorem dX5_reaches_12 : decode cX5_reaches 12 = .ok (.if_icmp .lt 20, 3) := by decide +kernel
theorem dX5_reaches_15 : decode cX5_reaches 15 = .ok (.iload_n 2, 1) := by decide +kernel
theorem dX5_reaches_16 : decode cX5_reaches 16 = .ok (.bipush 99, 2) := by decide +kernel
theorem dX5_reaches_18 : decode cX5_reaches 18 = .ok (.if_icmp .gt 14, 3) := by decide +kernel
theorem dX5_reaches_21 : decode cX5_reaches 21 = .ok (.iload_n 3, 1) := by decide +kernel
theorem dX5_reaches_22 : decode cX5_reaches 22 = .ok (.iconst 1, 1) := by decide +kernel
theorem dX5_reaches_23 : decode cX5_reaches 23 = .ok (.if_icmp .lt 9, 3) := by decide +kernel
theorem dX5_reaches_26 : decode cX5_reaches 26 = .ok (.iload_n 3, 1) := by decide +kernel
theorem dX5_reaches_27 : decode cX5_reaches 27 = .ok (.bipush 9, 2) := by decide +kernel
theorem dX5_reaches_29 : decode cX5_reaches 29 = .ok (.if_icmp .le 7, 3) := by decide +kernel
theorem dX5_reaches_32 : decode cX5_reaches 32 = .ok (.iconst 1, 1) := by decide +kernel
theorem dX5_reaches_33 : decode cX5_reaches 33 = .ok (.goto 15, 3) := by decide +kernel
theorem dX5_reaches_36 : decode cX5_reaches 36 = .ok (.aload_n 0, 1) := by decide +kernel
theorem dX5_reaches_37 : decode cX5_reaches 37 = .ok (.invokevirtual 69, 3) := by decide +kernel
theorem dX5_reaches_40 : decode cX5_reaches 40 = .ok (.ifCond .eq 7, 3) := by decide +kernel
theorem dX5_reaches_43 : decode cX5_reaches 43 = .ok (.iconst 0, 1) := by decide +kernel
theorem dX5_reaches_44 : decode cX5_reaches 44 = .ok (.goto 4, 3) := by decide +kernel
theorem dX5_reaches_47 : decode cX5_reaches 47 = .ok (.iconst 2, 1) := by decide +kernel
theorem dX5_reaches_48 : decode cX5_reaches 48 = .ok (.putfield 47, 3) := by decide +kernel
theorem dX5_reaches_51 : decode cX5_reaches 51 = .ok (.aload_n 0, 1) := by decide +kernel
theorem dX5_reaches_52 : decode cX5_reaches 52 = .ok (.getfield 47, 3) := by decide +kernel
theorem dX5_reaches_55 : decode cX5_reaches 55 = .ok (.ifCond .le 5, 3) := by decide +kernel
theorem dX5_reaches_58 : decode cX5_reaches 58 = .ok (.iconst 0, 1) := by decide +kernel
theorem dX5_reaches_59 : decode cX5_reaches 59 = .ok (.ireturn, 1) := by decide +kernel
theorem dX5_reaches_60 : decode cX5_reaches 60 = .ok (.aload_n 0, 1) := by decide +kernel
theorem dX5_reaches_61 : decode cX5_reaches 61 = .ok (.invokevirtual 97, 3) := by decide +kernel
theorem dX5_reaches_64 : decode cX5_reaches 64 = .ok (.aload_n 0, 1) := by decide +kernel
theorem dX5_reaches_65 : decode cX5_reaches 65 = .ok (.getfield 25, 3) := by decide +kernel
theorem dX5_reaches_68 : decode cX5_reaches 68 = .ok (.iload_n 1, 1) := by decide +kernel
theorem dX5_reaches_69 : decode cX5_reaches 69 = .ok (.iaload, 1) := by decide +kernel
theorem dX5_reaches_70 : decode cX5_reaches 70 = .ok (.iload_n 3, 1) := by decide +kernel
theorem dX5_reaches_71 : decode cX5_reaches 71 = .ok (.imul, 1) := by decide +kernel
theorem dX5_reaches_72 : decode cX5_reaches 72 = .ok (.iload_n 2, 1) := by decide +kernel
theorem dX5_reaches_73 : decode cX5_reaches 73 = .ok (.aload_n 0, 1) := by decide +kernel
theorem dX5_reaches_74 : decode cX5_reaches 74 = .ok (.getfield 28, 3) := by decide +kernel
theorem dX5_reaches_77 : decode cX5_reaches 77 = .ok (.iload_n 1, 1) := by decide +kernel
theorem dX5_reaches_78 : decode cX5_reaches 78 = .ok (.iaload, 1) := by decide +kernel
theorem dX5_reaches_79 : decode cX5_reaches 79 = .ok (.imul, 1) := by decide +kernel
theorem dX5_reaches_80 : decode cX5_reaches 80 = .ok (.if_icmp .lt 7, 3) := by decide +kernel
theorem dX5_reaches_83 : decode cX5_reaches 83 = .ok (.iconst 1, 1) := by decide +kernel
theorem dX5_reaches_84 : decode cX5_reaches 84 = .ok (.goto 4, 3) := by decide +kernel
theorem dX5_reaches_87 : decode cX5_reaches 87 = .ok (.iconst 0, 1) := by decide +kernel
theorem dX5_reaches_88 : decode cX5_reaches 88 = .ok (.ireturn, 1) := by decide +kernel
set_option maxRecDepth 20000 in
theorem ggX5_value_X5_refuses : GoodIn wsX5_value wsX5_refuses := goodIn_r _ [7, 8, 9, 10, 11, 6, 12, 13, 14, 15, 16, 17, 18, 19, 20, 21, 22, 23, 24, 44, 45, 46, 47, 48, 49, 50, 51, 52, 53, 54, 55, 56, 57, 58, 59] (by decide +kernel) (by decide +kernel)
set_option maxRecDepth 20000 in
theorem gX5_value_X5_refuses : GoodIn wsX5_value (wsV RX5 78 RX5 yX5_refuses wsX5_refuses) := goodIn_app (goodIn_of _ (by decide +kernel)) ggX5_value_X5_refuses
set_option maxRecDepth 20000 in
theorem ggX5_value_X5_findValues : GoodIn wsX5_value wsX5_findValues := goodIn_r _ [28, 29, 13, 30, 31, 32, 18, 33, 34, 35, 36, 19, 20, 21, 6, 22, 23, 24, 37, 38, 39, 40, 1, 2, 41, 42, 43, 44, 45, 46, 47, 48, 49, 50, 51, 52, 53, 54, 55, 56, 57, 58, 59] (by decide +kernel) (by decide +kernel)
set_option maxRecDepth 20000 in
theorem gX5_value_X5_findValues : GoodIn wsX5_value (wsV RX5 97 RX5 yX5_findValues wsX5_findValues) := goodIn_app (goodIn_of _ (by decide +kernel)) ggX5_value_X5_findValues
theorem dX5_value_0 : decode cX5_value 0 = .ok (.aload_n 0, 1) := by decide +kernel
theorem dX5_value_1 : decode cX5_value 1 = .ok (.iload_n 1, 1) := by decide +kernel
theorem dX5_value_2 : decode cX5_value 2 = .ok (.invokevirtual 78, 3) := by decide +kernel
theorem dX5_value_5 : decode cX5_value 5 = .ok (.ifCond .eq 5, 3) := by decide +kernel
theorem dX5_value_8 : decode cX5_value 8 = .ok (.iconst 0, 1) := by decide +kernel
theorem dX5_value_9 : decode cX5_value 9 = .ok (.ireturn, 1) := by decide +kernel
theorem dX5_value_10 : decode cX5_value 10 = .ok (.aload_n 0, 1) := by decide +kernel
theorem dX5_value_11 : decode cX5_value 11 = .ok (.invokevirtual 97, 3) := by decide +kernel
theorem dX5_value_14 : decode cX5_value 14 = .ok (.iload_n 2, 1) := by decide +kernel
theorem dX5_value_15 : decode cX5_value 15 = .ok (.ifCond .eq 12, 3) := by decide +kernel
theorem dX5_value_18 : decode cX5_value 18 = .ok (.aload_n 0, 1) := by decide +kernel
theorem dX5_value_19 : decode cX5_value 19 = .ok (.getfield 28, 3) := by decide +kernel
theorem dX5_value_22 : decode cX5_value 22 = .ok (.iload_n 1, 1) := by decide +kernel
theorem dX5_value_23 : decode cX5_value 23 = .ok (.iaload, 1) := by decide +kernel
theorem dX5_value_24 : decode cX5_value 24 = .ok (.goto 9, 3) := by decide +kernel
theorem dX5_value_27 : decode cX5_value 27 = .ok (.aload_n 0, 1) := by decide +kernel
theorem dX5_value_28 : decode cX5_value 28 = .ok (.getfield 25, 3) := by decide +kernel
theorem dX5_value_31 : decode cX5_value 31 = .ok (.iload_n 1, 1) := by decide +kernel
theorem dX5_value_32 : decode cX5_value 32 = .ok (.iaload, 1) := by decide +kernel
theorem dX5_value_33 : decode cX5_value 33 = .ok (.ireturn, 1) := by decide +kernel
set_option maxRecDepth 20000 in
theorem ggX5_bestOf_X5_findValues : GoodIn wsX5_bestOf wsX5_findValues := goodIn_r _ [13, 14, 15, 16, 17, 18, 4, 8, 6, 3, 19, 20, 21, 22, 12, 23, 24, 25, 26, 27, 28, 29, 2, 1, 30, 31, 32, 42, 43, 44, 45, 46, 47, 48, 49, 50, 51, 52, 53, 54, 55, 56, 57] (by decide +kernel) (by decide +kernel)
set_option maxRecDepth 20000 in
theorem gX5_bestOf_X5_findValues : GoodIn wsX5_bestOf (wsV RX5 97 RX5 yX5_findValues wsX5_findValues) := goodIn_app (goodIn_of _ (by decide +kernel)) ggX5_bestOf_X5_findValues
set_option maxRecDepth 20000 in
theorem ggX5_bestOf_X5_findNeeds : GoodIn wsX5_bestOf wsX5_findNeeds := goodIn_r _ [36, 4, 8, 15, 5, 37, 7, 38, 39, 40, 12, 41, 3, 6, 20, 21, 22, 23, 24, 25, 42, 43, 44, 45, 46, 47, 48, 49, 50, 51, 52, 53, 54, 55, 56, 57] (by decide +kernel) (by decide +kernel)
set_option maxRecDepth 20000 in
theorem gX5_bestOf_X5_findNeeds : GoodIn wsX5_bestOf (wsV RX5 81 RX5 yX5_findNeeds wsX5_findNeeds) := goodIn_app (goodIn_of _ (by decide +kernel)) ggX5_bestOf_X5_findNeeds
set_option maxRecDepth 20000 in
theorem ggX5_bestOf_X5_leads : GoodIn wsX5_bestOf wsX5_leads := goodIn_r _ [23, 24, 25, 42, 43, 44, 45, 46, 47, 48, 49, 50, 51, 52, 53, 54, 55, 56, 57] (by decide +kernel) (by decide +kernel)
set_option maxRecDepth 20000 in
theorem gX5_bestOf_X5_leads : GoodIn wsX5_bestOf (wsV RX5 57 RX5 yX5_leads wsX5_leads) := goodIn_app (goodIn_of _ (by decide +kernel)) ggX5_bestOf_X5_leads
theorem dX5_bestOf_0 : decode cX5_bestOf 0 = .ok (.aload_n 0, 1) := by decide +kernel
theorem dX5_bestOf_1 : decode cX5_bestOf 1 = .ok (.invokevirtual 97, 3) := by decide +kernel
theorem dX5_bestOf_4 : decode cX5_bestOf 4 = .ok (.aload_n 0, 1) := by decide +kernel
theorem dX5_bestOf_5 : decode cX5_bestOf 5 = .ok (.getfield 25, 3) := by decide +kernel
theorem dX5_bestOf_8 : decode cX5_bestOf 8 = .ok (.iload_n 1, 1) := by decide +kernel
theorem dX5_bestOf_9 : decode cX5_bestOf 9 = .ok (.iaload, 1) := by decide +kernel
theorem dX5_bestOf_10 : decode cX5_bestOf 10 = .ok (.istore_n 2, 1) := by decide +kernel
theorem dX5_bestOf_11 : decode cX5_bestOf 11 = .ok (.aload_n 0, 1) := by decide +kernel
theorem dX5_bestOf_12 : decode cX5_bestOf 12 = .ok (.getfield 28, 3) := by decide +kernel
theorem dX5_bestOf_15 : decode cX5_bestOf 15 = .ok (.iload_n 1, 1) := by decide +kernel
theorem dX5_bestOf_16 : decode cX5_bestOf 16 = .ok (.iaload, 1) := by decide +kernel
theorem dX5_bestOf_17 : decode cX5_bestOf 17 = .ok (.istore_n 3, 1) := by decide +kernel
theorem dX5_bestOf_18 : decode cX5_bestOf 18 = .ok (.aload_n 0, 1) := by decide +kernel
theorem dX5_bestOf_19 : decode cX5_bestOf 19 = .ok (.getfield 7, 3) := by decide +kernel
theorem dX5_bestOf_22 : decode cX5_bestOf 22 = .ok (.iload_n 1, 1) := by decide +kernel
theorem dX5_bestOf_23 : decode cX5_bestOf 23 = .ok (.iaload, 1) := by decide +kernel
theorem dX5_bestOf_24 : decode cX5_bestOf 24 = .ok (.ifCond .ne 7, 3) := by decide +kernel
theorem dX5_bestOf_27 : decode cX5_bestOf 27 = .ok (.iconst 1, 1) := by decide +kernel
theorem dX5_bestOf_28 : decode cX5_bestOf 28 = .ok (.goto 4, 3) := by decide +kernel
theorem dX5_bestOf_31 : decode cX5_bestOf 31 = .ok (.iconst 0, 1) := by decide +kernel
theorem dX5_bestOf_32 : decode cX5_bestOf 32 = .ok (.istore 4, 2) := by decide +kernel
theorem dX5_bestOf_34 : decode cX5_bestOf 34 = .ok (.iload 4, 2) := by decide +kernel
theorem dX5_bestOf_36 : decode cX5_bestOf 36 = .ok (.ifCond .eq 7, 3) := by decide +kernel
theorem dX5_bestOf_39 : decode cX5_bestOf 39 = .ok (.iload_n 3, 1) := by decide +kernel
theorem dX5_bestOf_40 : decode cX5_bestOf 40 = .ok (.goto 5, 3) := by decide +kernel
theorem dX5_bestOf_43 : decode cX5_bestOf 43 = .ok (.iload_n 3, 1) := by decide +kernel
theorem dX5_bestOf_44 : decode cX5_bestOf 44 = .ok (.ineg, 1) := by decide +kernel
theorem dX5_bestOf_45 : decode cX5_bestOf 45 = .ok (.istore 5, 2) := by decide +kernel
theorem dX5_bestOf_47 : decode cX5_bestOf 47 = .ok (.iload 4, 2) := by decide +kernel
theorem dX5_bestOf_49 : decode cX5_bestOf 49 = .ok (.ifCond .eq 7, 3) := by decide +kernel
theorem dX5_bestOf_52 : decode cX5_bestOf 52 = .ok (.iload_n 2, 1) := by decide +kernel
theorem dX5_bestOf_53 : decode cX5_bestOf 53 = .ok (.goto 5, 3) := by decide +kernel
theorem dX5_bestOf_56 : decode cX5_bestOf 56 = .ok (.iload_n 2, 1) := by decide +kernel
theorem dX5_bestOf_57 : decode cX5_bestOf 57 = .ok (.ineg, 1) := by decide +kernel
theorem dX5_bestOf_58 : decode cX5_bestOf 58 = .ok (.istore 6, 2) := by decide +kernel
theorem dX5_bestOf_60 : decode cX5_bestOf 60 = .ok (.aload_n 0, 1) := by decide +kernel
theorem dX5_bestOf_61 : decode cX5_bestOf 61 = .ok (.iload 5, 2) := by decide +kernel
theorem dX5_bestOf_63 : decode cX5_bestOf 63 = .ok (.iload 6, 2) := by decide +kernel
theorem dX5_bestOf_65 : decode cX5_bestOf 65 = .ok (.iload 4, 2) := by decide +kernel
theorem dX5_bestOf_67 : decode cX5_bestOf 67 = .ok (.ifCond .eq 7, 3) := by decide +kernel
theorem dX5_bestOf_70 : decode cX5_bestOf 70 = .ok (.iconst 0, 1) := by decide +kernel
theorem dX5_bestOf_71 : decode cX5_bestOf 71 = .ok (.goto 4, 3) := by decide +kernel
theorem dX5_bestOf_74 : decode cX5_bestOf 74 = .ok (.iconst 1, 1) := by decide +kernel
theorem dX5_bestOf_75 : decode cX5_bestOf 75 = .ok (.invokevirtual 81, 3) := by decide +kernel
theorem dX5_bestOf_78 : decode cX5_bestOf 78 = .ok (.iconst 0, 1) := by decide +kernel
theorem dX5_bestOf_79 : decode cX5_bestOf 79 = .ok (.istore 7, 2) := by decide +kernel
theorem dX5_bestOf_81 : decode cX5_bestOf 81 = .ok (.iload 7, 2) := by decide +kernel
theorem dX5_bestOf_83 : decode cX5_bestOf 83 = .ok (.aload_n 0, 1) := by decide +kernel
theorem dX5_bestOf_84 : decode cX5_bestOf 84 = .ok (.getfield 54, 3) := by decide +kernel
theorem dX5_bestOf_87 : decode cX5_bestOf 87 = .ok (.if_icmp .ge 77, 3) := by decide +kernel
theorem dX5_bestOf_90 : decode cX5_bestOf 90 = .ok (.aload_n 0, 1) := by decide +kernel
theorem dX5_bestOf_91 : decode cX5_bestOf 91 = .ok (.iload 7, 2) := by decide +kernel
theorem dX5_bestOf_93 : decode cX5_bestOf 93 = .ok (.iload_n 1, 1) := by decide +kernel
theorem dX5_bestOf_94 : decode cX5_bestOf 94 = .ok (.invokevirtual 57, 3) := by decide +kernel
theorem dX5_bestOf_97 : decode cX5_bestOf 97 = .ok (.ifCond .eq 61, 3) := by decide +kernel
theorem dX5_bestOf_100 : decode cX5_bestOf 100 = .ok (.aload_n 0, 1) := by decide +kernel
theorem dX5_bestOf_101 : decode cX5_bestOf 101 = .ok (.getfield 38, 3) := by decide +kernel
theorem dX5_bestOf_104 : decode cX5_bestOf 104 = .ok (.aload_n 0, 1) := by decide +kernel
theorem dX5_bestOf_105 : decode cX5_bestOf 105 = .ok (.getfield 19, 3) := by decide +kernel
theorem dX5_bestOf_108 : decode cX5_bestOf 108 = .ok (.iload 7, 2) := by decide +kernel
theorem dX5_bestOf_110 : decode cX5_bestOf 110 = .ok (.iaload, 1) := by decide +kernel
theorem dX5_bestOf_111 : decode cX5_bestOf 111 = .ok (.iaload, 1) := by decide +kernel
theorem dX5_bestOf_112 : decode cX5_bestOf 112 = .ok (.ldc 77, 2) := by decide +kernel
theorem dX5_bestOf_114 : decode cX5_bestOf 114 = .ok (.if_icmp .ne 6, 3) := by decide +kernel
theorem dX5_bestOf_117 : decode cX5_bestOf 117 = .ok (.goto 41, 3) := by decide +kernel
theorem dX5_bestOf_120 : decode cX5_bestOf 120 = .ok (.aload_n 0, 1) := by decide +kernel
theorem dX5_bestOf_121 : decode cX5_bestOf 121 = .ok (.getfield 38, 3) := by decide +kernel
theorem dX5_bestOf_124 : decode cX5_bestOf 124 = .ok (.iload_n 1, 1) := by decide +kernel
theorem dX5_bestOf_125 : decode cX5_bestOf 125 = .ok (.iaload, 1) := by decide +kernel
theorem dX5_bestOf_126 : decode cX5_bestOf 126 = .ok (.iload 5, 2) := by decide +kernel
theorem dX5_bestOf_128 : decode cX5_bestOf 128 = .ok (.aload_n 0, 1) := by decide +kernel
theorem dX5_bestOf_129 : decode cX5_bestOf 129 = .ok (.getfield 22, 3) := by decide +kernel
theorem dX5_bestOf_132 : decode cX5_bestOf 132 = .ok (.iload 7, 2) := by decide +kernel
theorem dX5_bestOf_134 : decode cX5_bestOf 134 = .ok (.iaload, 1) := by decide +kernel
theorem dX5_bestOf_135 : decode cX5_bestOf 135 = .ok (.imul, 1) := by decide +kernel
theorem dX5_bestOf_136 : decode cX5_bestOf 136 = .ok (.iadd, 1) := by decide +kernel
theorem dX5_bestOf_137 : decode cX5_bestOf 137 = .ok (.iload 6, 2) := by decide +kernel
theorem dX5_bestOf_139 : decode cX5_bestOf 139 = .ok (.isub, 1) := by decide +kernel
theorem dX5_bestOf_140 : decode cX5_bestOf 140 = .ok (.aload_n 0, 1) := by decide +kernel
theorem dX5_bestOf_141 : decode cX5_bestOf 141 = .ok (.getfield 38, 3) := by decide +kernel
theorem dX5_bestOf_144 : decode cX5_bestOf 144 = .ok (.aload_n 0, 1) := by decide +kernel
theorem dX5_bestOf_145 : decode cX5_bestOf 145 = .ok (.getfield 19, 3) := by decide +kernel
theorem dX5_bestOf_148 : decode cX5_bestOf 148 = .ok (.iload 7, 2) := by decide +kernel
theorem dX5_bestOf_150 : decode cX5_bestOf 150 = .ok (.iaload, 1) := by decide +kernel
theorem dX5_bestOf_151 : decode cX5_bestOf 151 = .ok (.iaload, 1) := by decide +kernel
theorem dX5_bestOf_152 : decode cX5_bestOf 152 = .ok (.if_icmp .lt 6, 3) := by decide +kernel
theorem dX5_bestOf_155 : decode cX5_bestOf 155 = .ok (.iload 7, 2) := by decide +kernel
theorem dX5_bestOf_157 : decode cX5_bestOf 157 = .ok (.ireturn, 1) := by decide +kernel
theorem dX5_bestOf_158 : decode cX5_bestOf 158 = .ok (.iinc 7 1, 3) := by decide +kernel
theorem dX5_bestOf_161 : decode cX5_bestOf 161 = .ok (.goto (-80), 3) := by decide +kernel
theorem dX5_bestOf_164 : decode cX5_bestOf 164 = .ok (.iconst (-1), 1) := by decide +kernel
theorem dX5_bestOf_165 : decode cX5_bestOf 165 = .ok (.ireturn, 1) := by decide +kernel
set_option maxRecDepth 20000 in
theorem ggX5_best_X5_refuses : GoodIn wsX5_best wsX5_refuses := goodIn_r _ [5, 6, 7, 8, 9, 4, 10, 11, 12, 13, 14, 15, 16, 17, 18, 19, 20, 21, 22, 59, 60, 61, 62, 63, 64, 65, 66, 67, 68, 69, 70, 71, 72, 73, 74] (by decide +kernel) (by decide +kernel)
set_option maxRecDepth 20000 in
theorem gX5_best_X5_refuses : GoodIn wsX5_best (wsV RX5 78 RX5 yX5_refuses wsX5_refuses) := goodIn_app (goodIn_of _ (by decide +kernel)) ggX5_best_X5_refuses
set_option maxRecDepth 20000 in
theorem ggX5_best_X5_bestOf : GoodIn wsX5_best wsX5_bestOf := goodIn_r _ [26, 27, 28, 29, 16, 30, 31, 32, 33, 34, 35, 36, 4, 37, 38, 11, 39, 40, 41, 42, 17, 18, 19, 20, 21, 22, 43, 44, 45, 46, 47, 48, 49, 50, 51, 52, 53, 54, 55, 56, 57, 58, 59, 60, 61, 62, 63, 64, 65, 66, 67, 68, 69, 70, 71, 72, 73, 74] (by decide +kernel) (by decide +kernel)
set_option maxRecDepth 20000 in
theorem gX5_best_X5_bestOf : GoodIn wsX5_best (wsV RX5 100 RX5 yX5_bestOf wsX5_bestOf) := goodIn_app (goodIn_of _ (by decide +kernel)) ggX5_best_X5_bestOf
theorem dX5_best_0 : decode cX5_best 0 = .ok (.aload_n 0, 1) := by decide +kernel
theorem dX5_best_1 : decode cX5_best 1 = .ok (.iload_n 1, 1) := by decide +kernel
theorem dX5_best_2 : decode cX5_best 2 = .ok (.invokevirtual 78, 3) := by decide +kernel
theorem dX5_best_5 : decode cX5_best 5 = .ok (.ifCond .eq 7, 3) := by decide +kernel
theorem dX5_best_8 : decode cX5_best 8 = .ok (.iconst 0, 1) := by decide +kernel
theorem dX5_best_9 : decode cX5_best 9 = .ok (.goto 8, 3) := by decide +kernel
theorem dX5_best_12 : decode cX5_best 12 = .ok (.aload_n 0, 1) := by decide +kernel
theorem dX5_best_13 : decode cX5_best 13 = .ok (.iload_n 1, 1) := by decide +kernel
theorem dX5_best_14 : decode cX5_best 14 = .ok (.invokevirtual 100, 3) := by decide +kernel
theorem dX5_best_17 : decode cX5_best 17 = .ok (.ireturn, 1) := by decide +kernel
set_option maxRecDepth 20000 in
theorem ggX5_settle_X5_isComplete : GoodIn wsX5_settle wsX5_isComplete := goodIn_r _ [11, 2, 12, 13, 14, 15, 10, 16, 17, 5, 52, 53, 54, 55, 56, 57, 58, 59, 60, 61, 62, 63, 64, 65, 66, 67] (by decide +kernel) (by decide +kernel)
set_option maxRecDepth 20000 in
theorem gX5_settle_X5_isComplete : GoodIn wsX5_settle (wsV RX5 69 RX5 yX5_isComplete wsX5_isComplete) := goodIn_app (goodIn_of _ (by decide +kernel)) ggX5_settle_X5_isComplete
set_option maxRecDepth 20000 in
theorem ggX5_settle_X5_bestOf : GoodIn wsX5_settle wsX5_bestOf := goodIn_r _ [21, 22, 23, 4, 12, 24, 25, 26, 27, 28, 29, 30, 10, 31, 6, 2, 32, 33, 34, 35, 13, 14, 15, 16, 17, 5, 36, 37, 38, 39, 40, 41, 42, 43, 44, 45, 46, 47, 48, 49, 50, 51, 52, 53, 54, 55, 56, 57, 58, 59, 60, 61, 62, 63, 64, 65, 66, 67] (by decide +kernel) (by decide +kernel)
set_option maxRecDepth 20000 in
theorem gX5_settle_X5_bestOf : GoodIn wsX5_settle (wsV RX5 100 RX5 yX5_bestOf wsX5_bestOf) := goodIn_app (goodIn_of _ (by decide +kernel)) ggX5_settle_X5_bestOf
theorem dX5_settle_0 : decode cX5_settle 0 = .ok (.aload_n 0, 1) := by decide +kernel
theorem dX5_settle_1 : decode cX5_settle 1 = .ok (.iload_n 1, 1) := by decide +kernel
theorem dX5_settle_2 : decode cX5_settle 2 = .ok (.ifCond .eq 12, 3) := by decide +kernel
theorem dX5_settle_5 : decode cX5_settle 5 = .ok (.iload_n 1, 1) := by decide +kernel
theorem dX5_settle_6 : decode cX5_settle 6 = .ok (.iconst 1, 1) := by decide +kernel
theorem dX5_settle_7 : decode cX5_settle 7 = .ok (.if_icmp .eq 7, 3) := by decide +kernel
theorem dX5_settle_10 : decode cX5_settle 10 = .ok (.iconst 1, 1) := by decide +kernel
theorem dX5_settle_11 : decode cX5_settle 11 = .ok (.goto 15, 3) := by decide +kernel
theorem dX5_settle_14 : decode cX5_settle 14 = .ok (.aload_n 0, 1) := by decide +kernel
theorem dX5_settle_15 : decode cX5_settle 15 = .ok (.invokevirtual 69, 3) := by decide +kernel
theorem dX5_settle_18 : decode cX5_settle 18 = .ok (.ifCond .eq 7, 3) := by decide +kernel
theorem dX5_settle_21 : decode cX5_settle 21 = .ok (.iconst 0, 1) := by decide +kernel
theorem dX5_settle_22 : decode cX5_settle 22 = .ok (.goto 4, 3) := by decide +kernel
theorem dX5_settle_25 : decode cX5_settle 25 = .ok (.iconst 2, 1) := by decide +kernel
theorem dX5_settle_26 : decode cX5_settle 26 = .ok (.putfield 47, 3) := by decide +kernel
theorem dX5_settle_29 : decode cX5_settle 29 = .ok (.aload_n 0, 1) := by decide +kernel
theorem dX5_settle_30 : decode cX5_settle 30 = .ok (.getfield 47, 3) := by decide +kernel
theorem dX5_settle_33 : decode cX5_settle 33 = .ok (.ifCond .le 5, 3) := by decide +kernel
theorem dX5_settle_36 : decode cX5_settle 36 = .ok (.iconst 0, 1) := by decide +kernel
theorem dX5_settle_37 : decode cX5_settle 37 = .ok (.ireturn, 1) := by decide +kernel
theorem dX5_settle_38 : decode cX5_settle 38 = .ok (.iconst 0, 1) := by decide +kernel
theorem dX5_settle_39 : decode cX5_settle 39 = .ok (.istore_n 2, 1) := by decide +kernel
theorem dX5_settle_40 : decode cX5_settle 40 = .ok (.iload_n 2, 1) := by decide +kernel
theorem dX5_settle_41 : decode cX5_settle 41 = .ok (.aload_n 0, 1) := by decide +kernel
theorem dX5_settle_42 : decode cX5_settle 42 = .ok (.getfield 51, 3) := by decide +kernel
theorem dX5_settle_45 : decode cX5_settle 45 = .ok (.if_icmp .ge 44, 3) := by decide +kernel
theorem dX5_settle_48 : decode cX5_settle 48 = .ok (.aload_n 0, 1) := by decide +kernel
theorem dX5_settle_49 : decode cX5_settle 49 = .ok (.getfield 44, 3) := by decide +kernel
theorem dX5_settle_52 : decode cX5_settle 52 = .ok (.iload_n 2, 1) := by decide +kernel
theorem dX5_settle_53 : decode cX5_settle 53 = .ok (.aload_n 0, 1) := by decide +kernel
theorem dX5_settle_54 : decode cX5_settle 54 = .ok (.getfield 7, 3) := by decide +kernel
theorem dX5_settle_57 : decode cX5_settle 57 = .ok (.iload_n 2, 1) := by decide +kernel
theorem dX5_settle_58 : decode cX5_settle 58 = .ok (.iaload, 1) := by decide +kernel
theorem dX5_settle_59 : decode cX5_settle 59 = .ok (.iload_n 1, 1) := by decide +kernel
theorem dX5_settle_60 : decode cX5_settle 60 = .ok (.if_icmp .ne 21, 3) := by decide +kernel
theorem dX5_settle_63 : decode cX5_settle 63 = .ok (.aload_n 0, 1) := by decide +kernel
theorem dX5_settle_64 : decode cX5_settle 64 = .ok (.getfield 13, 3) := by decide +kernel
theorem dX5_settle_67 : decode cX5_settle 67 = .ok (.iload_n 2, 1) := by decide +kernel
theorem dX5_settle_68 : decode cX5_settle 68 = .ok (.iaload, 1) := by decide +kernel
theorem dX5_settle_69 : decode cX5_settle 69 = .ok (.iconst (-1), 1) := by decide +kernel
theorem dX5_settle_70 : decode cX5_settle 70 = .ok (.if_icmp .ne 11, 3) := by decide +kernel
theorem dX5_settle_73 : decode cX5_settle 73 = .ok (.aload_n 0, 1) := by decide +kernel
theorem dX5_settle_74 : decode cX5_settle 74 = .ok (.iload_n 2, 1) := by decide +kernel
theorem dX5_settle_75 : decode cX5_settle 75 = .ok (.invokevirtual 100, 3) := by decide +kernel
theorem dX5_settle_78 : decode cX5_settle 78 = .ok (.goto 4, 3) := by decide +kernel
theorem dX5_settle_81 : decode cX5_settle 81 = .ok (.iconst (-1), 1) := by decide +kernel
theorem dX5_settle_82 : decode cX5_settle 82 = .ok (.iastore, 1) := by decide +kernel
theorem dX5_settle_83 : decode cX5_settle 83 = .ok (.iinc 2 1, 3) := by decide +kernel
theorem dX5_settle_86 : decode cX5_settle 86 = .ok (.goto (-46), 3) := by decide +kernel
theorem dX5_settle_89 : decode cX5_settle 89 = .ok (.iconst 0, 1) := by decide +kernel
theorem dX5_settle_90 : decode cX5_settle 90 = .ok (.istore_n 2, 1) := by decide +kernel
theorem dX5_settle_91 : decode cX5_settle 91 = .ok (.iconst 0, 1) := by decide +kernel
theorem dX5_settle_92 : decode cX5_settle 92 = .ok (.istore_n 3, 1) := by decide +kernel
theorem dX5_settle_93 : decode cX5_settle 93 = .ok (.iload_n 3, 1) := by decide +kernel
theorem dX5_settle_94 : decode cX5_settle 94 = .ok (.aload_n 0, 1) := by decide +kernel
theorem dX5_settle_95 : decode cX5_settle 95 = .ok (.getfield 51, 3) := by decide +kernel
theorem dX5_settle_98 : decode cX5_settle 98 = .ok (.if_icmp .ge 37, 3) := by decide +kernel
theorem dX5_settle_101 : decode cX5_settle 101 = .ok (.aload_n 0, 1) := by decide +kernel
theorem dX5_settle_102 : decode cX5_settle 102 = .ok (.getfield 44, 3) := by decide +kernel
theorem dX5_settle_105 : decode cX5_settle 105 = .ok (.iload_n 3, 1) := by decide +kernel
theorem dX5_settle_106 : decode cX5_settle 106 = .ok (.iaload, 1) := by decide +kernel
theorem dX5_settle_107 : decode cX5_settle 107 = .ok (.iconst (-1), 1) := by decide +kernel
theorem dX5_settle_108 : decode cX5_settle 108 = .ok (.if_icmp .ne 6, 3) := by decide +kernel
theorem dX5_settle_111 : decode cX5_settle 111 = .ok (.goto 18, 3) := by decide +kernel
theorem dX5_settle_114 : decode cX5_settle 114 = .ok (.aload_n 0, 1) := by decide +kernel
theorem dX5_settle_115 : decode cX5_settle 115 = .ok (.getfield 13, 3) := by decide +kernel
theorem dX5_settle_118 : decode cX5_settle 118 = .ok (.iload_n 3, 1) := by decide +kernel
theorem dX5_settle_119 : decode cX5_settle 119 = .ok (.aload_n 0, 1) := by decide +kernel
theorem dX5_settle_120 : decode cX5_settle 120 = .ok (.getfield 44, 3) := by decide +kernel
theorem dX5_settle_123 : decode cX5_settle 123 = .ok (.iload_n 3, 1) := by decide +kernel
theorem dX5_settle_124 : decode cX5_settle 124 = .ok (.iaload, 1) := by decide +kernel
theorem dX5_settle_125 : decode cX5_settle 125 = .ok (.iastore, 1) := by decide +kernel
theorem dX5_settle_126 : decode cX5_settle 126 = .ok (.iinc 2 1, 3) := by decide +kernel
theorem dX5_settle_129 : decode cX5_settle 129 = .ok (.iinc 3 1, 3) := by decide +kernel
theorem dX5_settle_132 : decode cX5_settle 132 = .ok (.goto (-39), 3) := by decide +kernel
theorem dX5_settle_135 : decode cX5_settle 135 = .ok (.aload_n 0, 1) := by decide +kernel
theorem dX5_settle_136 : decode cX5_settle 136 = .ok (.aload_n 0, 1) := by decide +kernel
theorem dX5_settle_137 : decode cX5_settle 137 = .ok (.getfield 61, 3) := by decide +kernel
theorem dX5_settle_140 : decode cX5_settle 140 = .ok (.ifCond .eq 11, 3) := by decide +kernel
theorem dX5_settle_143 : decode cX5_settle 143 = .ok (.iload_n 2, 1) := by decide +kernel
theorem dX5_settle_144 : decode cX5_settle 144 = .ok (.ifCond .ne 7, 3) := by decide +kernel
theorem dX5_settle_147 : decode cX5_settle 147 = .ok (.iconst 1, 1) := by decide +kernel
theorem dX5_settle_148 : decode cX5_settle 148 = .ok (.goto 4, 3) := by decide +kernel
theorem dX5_settle_151 : decode cX5_settle 151 = .ok (.iconst 0, 1) := by decide +kernel
theorem dX5_settle_152 : decode cX5_settle 152 = .ok (.putfield 61, 3) := by decide +kernel
theorem dX5_settle_155 : decode cX5_settle 155 = .ok (.iload_n 2, 1) := by decide +kernel
theorem dX5_settle_156 : decode cX5_settle 156 = .ok (.ireturn, 1) := by decide +kernel
set_option maxRecDepth 20000 in
theorem ggX5_walk_X5_isVertex : GoodIn wsX5_walk wsX5_isVertex := goodIn_r _ [10, 2, 56, 57, 58, 59, 60, 61, 62, 63, 64, 65, 66, 67, 68, 69, 70, 71] (by decide +kernel) (by decide +kernel)
set_option maxRecDepth 20000 in
theorem gX5_walk_X5_isVertex : GoodIn wsX5_walk (wsV RX5 65 RX5 yX5_isVertex wsX5_isVertex) := goodIn_app (goodIn_of _ (by decide +kernel)) ggX5_walk_X5_isVertex
set_option maxRecDepth 20000 in
theorem ggX5_walk_X5_isComplete : GoodIn wsX5_walk wsX5_isComplete := goodIn_r _ [14, 2, 15, 16, 17, 18, 9, 19, 20, 21, 56, 57, 58, 59, 60, 61, 62, 63, 64, 65, 66, 67, 68, 69, 70, 71] (by decide +kernel) (by decide +kernel)
set_option maxRecDepth 20000 in
theorem gX5_walk_X5_isComplete : GoodIn wsX5_walk (wsV RX5 69 RX5 yX5_isComplete wsX5_isComplete) := goodIn_app (goodIn_of _ (by decide +kernel)) ggX5_walk_X5_isComplete
set_option maxRecDepth 20000 in
theorem ggX5_walk_X5_bestOf : GoodIn wsX5_walk wsX5_bestOf := goodIn_r _ [25, 26, 27, 28, 15, 29, 4, 30, 5, 31, 32, 33, 9, 34, 35, 2, 36, 37, 38, 39, 16, 17, 18, 19, 20, 21, 40, 41, 42, 43, 44, 45, 46, 47, 48, 49, 50, 51, 52, 53, 54, 55, 56, 57, 58, 59, 60, 61, 62, 63, 64, 65, 66, 67, 68, 69, 70, 71] (by decide +kernel) (by decide +kernel)
set_option maxRecDepth 20000 in
theorem gX5_walk_X5_bestOf : GoodIn wsX5_walk (wsV RX5 100 RX5 yX5_bestOf wsX5_bestOf) := goodIn_app (goodIn_of _ (by decide +kernel)) ggX5_walk_X5_bestOf
theorem dX5_walk_0 : decode cX5_walk 0 = .ok (.aload_n 0, 1) := by decide +kernel
theorem dX5_walk_1 : decode cX5_walk 1 = .ok (.aload_n 0, 1) := by decide +kernel
theorem dX5_walk_2 : decode cX5_walk 2 = .ok (.iload_n 1, 1) := by decide +kernel
theorem dX5_walk_3 : decode cX5_walk 3 = .ok (.invokevirtual 65, 3) := by decide +kernel
theorem dX5_walk_6 : decode cX5_walk 6 = .ok (.ifCond .eq 12, 3) := by decide +kernel
theorem dX5_walk_9 : decode cX5_walk 9 = .ok (.iload_n 2, 1) := by decide +kernel
theorem dX5_walk_10 : decode cX5_walk 10 = .ok (.ifCond .lt 8, 3) := by decide +kernel
theorem dX5_walk_13 : decode cX5_walk 13 = .ok (.iload_n 2, 1) := by decide +kernel
theorem dX5_walk_14 : decode cX5_walk 14 = .ok (.iconst 3, 1) := by decide +kernel
theorem dX5_walk_15 : decode cX5_walk 15 = .ok (.if_icmp .le 7, 3) := by decide +kernel
theorem dX5_walk_18 : decode cX5_walk 18 = .ok (.iconst 1, 1) := by decide +kernel
theorem dX5_walk_19 : decode cX5_walk 19 = .ok (.goto 15, 3) := by decide +kernel
theorem dX5_walk_22 : decode cX5_walk 22 = .ok (.aload_n 0, 1) := by decide +kernel
theorem dX5_walk_23 : decode cX5_walk 23 = .ok (.invokevirtual 69, 3) := by decide +kernel
theorem dX5_walk_26 : decode cX5_walk 26 = .ok (.ifCond .eq 7, 3) := by decide +kernel
theorem dX5_walk_29 : decode cX5_walk 29 = .ok (.iconst 0, 1) := by decide +kernel
theorem dX5_walk_30 : decode cX5_walk 30 = .ok (.goto 4, 3) := by decide +kernel
theorem dX5_walk_33 : decode cX5_walk 33 = .ok (.iconst 2, 1) := by decide +kernel
theorem dX5_walk_34 : decode cX5_walk 34 = .ok (.putfield 47, 3) := by decide +kernel
theorem dX5_walk_37 : decode cX5_walk 37 = .ok (.aload_n 0, 1) := by decide +kernel
theorem dX5_walk_38 : decode cX5_walk 38 = .ok (.getfield 47, 3) := by decide +kernel
theorem dX5_walk_41 : decode cX5_walk 41 = .ok (.ifCond .le 5, 3) := by decide +kernel
theorem dX5_walk_44 : decode cX5_walk 44 = .ok (.iconst 0, 1) := by decide +kernel
theorem dX5_walk_45 : decode cX5_walk 45 = .ok (.ireturn, 1) := by decide +kernel
theorem dX5_walk_46 : decode cX5_walk 46 = .ok (.iconst 0, 1) := by decide +kernel
theorem dX5_walk_47 : decode cX5_walk 47 = .ok (.istore_n 3, 1) := by decide +kernel
theorem dX5_walk_48 : decode cX5_walk 48 = .ok (.iload_n 3, 1) := by decide +kernel
theorem dX5_walk_49 : decode cX5_walk 49 = .ok (.aload_n 0, 1) := by decide +kernel
theorem dX5_walk_50 : decode cX5_walk 50 = .ok (.getfield 51, 3) := by decide +kernel
theorem dX5_walk_53 : decode cX5_walk 53 = .ok (.if_icmp .ge 16, 3) := by decide +kernel
theorem dX5_walk_56 : decode cX5_walk 56 = .ok (.aload_n 0, 1) := by decide +kernel
theorem dX5_walk_57 : decode cX5_walk 57 = .ok (.getfield 44, 3) := by decide +kernel
theorem dX5_walk_60 : decode cX5_walk 60 = .ok (.iload_n 3, 1) := by decide +kernel
theorem dX5_walk_61 : decode cX5_walk 61 = .ok (.iconst (-1), 1) := by decide +kernel
theorem dX5_walk_62 : decode cX5_walk 62 = .ok (.iastore, 1) := by decide +kernel
theorem dX5_walk_63 : decode cX5_walk 63 = .ok (.iinc 3 1, 3) := by decide +kernel
theorem dX5_walk_66 : decode cX5_walk 66 = .ok (.goto (-18), 3) := by decide +kernel
theorem dX5_walk_69 : decode cX5_walk 69 = .ok (.iload_n 1, 1) := by decide +kernel
theorem dX5_walk_70 : decode cX5_walk 70 = .ok (.istore_n 3, 1) := by decide +kernel
theorem dX5_walk_71 : decode cX5_walk 71 = .ok (.iconst 0, 1) := by decide +kernel
theorem dX5_walk_72 : decode cX5_walk 72 = .ok (.istore 4, 2) := by decide +kernel
theorem dX5_walk_74 : decode cX5_walk 74 = .ok (.aload_n 0, 1) := by decide +kernel
theorem dX5_walk_75 : decode cX5_walk 75 = .ok (.getfield 44, 3) := by decide +kernel
theorem dX5_walk_78 : decode cX5_walk 78 = .ok (.iload_n 3, 1) := by decide +kernel
theorem dX5_walk_79 : decode cX5_walk 79 = .ok (.iaload, 1) := by decide +kernel
theorem dX5_walk_80 : decode cX5_walk 80 = .ok (.ifCond .ge 28, 3) := by decide +kernel
theorem dX5_walk_83 : decode cX5_walk 83 = .ok (.aload_n 0, 1) := by decide +kernel
theorem dX5_walk_84 : decode cX5_walk 84 = .ok (.getfield 44, 3) := by decide +kernel
theorem dX5_walk_87 : decode cX5_walk 87 = .ok (.iload_n 3, 1) := by decide +kernel
theorem dX5_walk_88 : decode cX5_walk 88 = .ok (.iload 4, 2) := by decide +kernel
theorem dX5_walk_90 : decode cX5_walk 90 = .ok (.iastore, 1) := by decide +kernel
theorem dX5_walk_91 : decode cX5_walk 91 = .ok (.iinc 4 1, 3) := by decide +kernel
theorem dX5_walk_94 : decode cX5_walk 94 = .ok (.aload_n 0, 1) := by decide +kernel
theorem dX5_walk_95 : decode cX5_walk 95 = .ok (.getfield 19, 3) := by decide +kernel
theorem dX5_walk_98 : decode cX5_walk 98 = .ok (.aload_n 0, 1) := by decide +kernel
theorem dX5_walk_99 : decode cX5_walk 99 = .ok (.iload_n 3, 1) := by decide +kernel
theorem dX5_walk_100 : decode cX5_walk 100 = .ok (.invokevirtual 100, 3) := by decide +kernel
theorem dX5_walk_103 : decode cX5_walk 103 = .ok (.iaload, 1) := by decide +kernel
theorem dX5_walk_104 : decode cX5_walk 104 = .ok (.istore_n 3, 1) := by decide +kernel
theorem dX5_walk_105 : decode cX5_walk 105 = .ok (.goto (-31), 3) := by decide +kernel
theorem dX5_walk_108 : decode cX5_walk 108 = .ok (.aload_n 0, 1) := by decide +kernel
theorem dX5_walk_109 : decode cX5_walk 109 = .ok (.getfield 44, 3) := by decide +kernel
theorem dX5_walk_112 : decode cX5_walk 112 = .ok (.iload_n 3, 1) := by decide +kernel
theorem dX5_walk_113 : decode cX5_walk 113 = .ok (.iaload, 1) := by decide +kernel
theorem dX5_walk_114 : decode cX5_walk 114 = .ok (.istore 5, 2) := by decide +kernel
theorem dX5_walk_116 : decode cX5_walk 116 = .ok (.iload_n 2, 1) := by decide +kernel
theorem dX5_walk_117 : decode cX5_walk 117 = .ok (.ifCond .ne 6, 3) := by decide +kernel
theorem dX5_walk_120 : decode cX5_walk 120 = .ok (.iload 5, 2) := by decide +kernel
theorem dX5_walk_122 : decode cX5_walk 122 = .ok (.ireturn, 1) := by decide +kernel
theorem dX5_walk_123 : decode cX5_walk 123 = .ok (.iload_n 2, 1) := by decide +kernel
theorem dX5_walk_124 : decode cX5_walk 124 = .ok (.iconst 1, 1) := by decide +kernel
theorem dX5_walk_125 : decode cX5_walk 125 = .ok (.if_icmp .ne 9, 3) := by decide +kernel
theorem dX5_walk_128 : decode cX5_walk 128 = .ok (.iload 4, 2) := by decide +kernel
theorem dX5_walk_130 : decode cX5_walk 130 = .ok (.iload 5, 2) := by decide +kernel
theorem dX5_walk_132 : decode cX5_walk 132 = .ok (.isub, 1) := by decide +kernel
theorem dX5_walk_133 : decode cX5_walk 133 = .ok (.ireturn, 1) := by decide +kernel
theorem dX5_walk_134 : decode cX5_walk 134 = .ok (.iload_n 2, 1) := by decide +kernel
theorem dX5_walk_135 : decode cX5_walk 135 = .ok (.iconst 3, 1) := by decide +kernel
theorem dX5_walk_136 : decode cX5_walk 136 = .ok (.if_icmp .ne 5, 3) := by decide +kernel
theorem dX5_walk_139 : decode cX5_walk 139 = .ok (.iload_n 3, 1) := by decide +kernel
theorem dX5_walk_140 : decode cX5_walk 140 = .ok (.ireturn, 1) := by decide +kernel
theorem dX5_walk_141 : decode cX5_walk 141 = .ok (.iconst 0, 1) := by decide +kernel
theorem dX5_walk_142 : decode cX5_walk 142 = .ok (.istore 6, 2) := by decide +kernel
theorem dX5_walk_144 : decode cX5_walk 144 = .ok (.iload_n 3, 1) := by decide +kernel
theorem dX5_walk_145 : decode cX5_walk 145 = .ok (.istore 7, 2) := by decide +kernel
theorem dX5_walk_147 : decode cX5_walk 147 = .ok (.iconst 1, 1) := by decide +kernel
theorem dX5_walk_148 : decode cX5_walk 148 = .ok (.istore 8, 2) := by decide +kernel
theorem dX5_walk_150 : decode cX5_walk 150 = .ok (.iload 8, 2) := by decide +kernel
theorem dX5_walk_152 : decode cX5_walk 152 = .ok (.ifCond .eq 48, 3) := by decide +kernel
theorem dX5_walk_155 : decode cX5_walk 155 = .ok (.aload_n 0, 1) := by decide +kernel
theorem dX5_walk_156 : decode cX5_walk 156 = .ok (.iload 7, 2) := by decide +kernel
theorem dX5_walk_158 : decode cX5_walk 158 = .ok (.invokevirtual 100, 3) := by decide +kernel
theorem dX5_walk_161 : decode cX5_walk 161 = .ok (.istore 9, 2) := by decide +kernel
theorem dX5_walk_163 : decode cX5_walk 163 = .ok (.iload 6, 2) := by decide +kernel
theorem dX5_walk_165 : decode cX5_walk 165 = .ok (.aload_n 0, 1) := by decide +kernel
theorem dX5_walk_166 : decode cX5_walk 166 = .ok (.getfield 22, 3) := by decide +kernel
theorem dX5_walk_169 : decode cX5_walk 169 = .ok (.iload 9, 2) := by decide +kernel
theorem dX5_walk_171 : decode cX5_walk 171 = .ok (.iaload, 1) := by decide +kernel
theorem dX5_walk_172 : decode cX5_walk 172 = .ok (.iadd, 1) := by decide +kernel
theorem dX5_walk_173 : decode cX5_walk 173 = .ok (.istore 6, 2) := by decide +kernel
theorem dX5_walk_175 : decode cX5_walk 175 = .ok (.aload_n 0, 1) := by decide +kernel
theorem dX5_walk_176 : decode cX5_walk 176 = .ok (.getfield 19, 3) := by decide +kernel
theorem dX5_walk_179 : decode cX5_walk 179 = .ok (.iload 9, 2) := by decide +kernel
theorem dX5_walk_181 : decode cX5_walk 181 = .ok (.iaload, 1) := by decide +kernel
theorem dX5_walk_182 : decode cX5_walk 182 = .ok (.istore 7, 2) := by decide +kernel
theorem dX5_walk_184 : decode cX5_walk 184 = .ok (.iload 7, 2) := by decide +kernel
theorem dX5_walk_186 : decode cX5_walk 186 = .ok (.iload_n 3, 1) := by decide +kernel
theorem dX5_walk_187 : decode cX5_walk 187 = .ok (.if_icmp .eq 7, 3) := by decide +kernel
theorem dX5_walk_190 : decode cX5_walk 190 = .ok (.iconst 1, 1) := by decide +kernel
theorem dX5_walk_191 : decode cX5_walk 191 = .ok (.goto 4, 3) := by decide +kernel
theorem dX5_walk_194 : decode cX5_walk 194 = .ok (.iconst 0, 1) := by decide +kernel
theorem dX5_walk_195 : decode cX5_walk 195 = .ok (.istore 8, 2) := by decide +kernel
theorem dX5_walk_197 : decode cX5_walk 197 = .ok (.goto (-47), 3) := by decide +kernel
theorem dX5_walk_200 : decode cX5_walk 200 = .ok (.iload 6, 2) := by decide +kernel
theorem dX5_walk_202 : decode cX5_walk 202 = .ok (.ireturn, 1) := by decide +kernel
theorem dJ6_compare_7cf53_0 : decode cJ6_compare_7cf53 0 = .ok (.iload_n 0, 1) := by decide +kernel
theorem dJ6_compare_7cf53_1 : decode cJ6_compare_7cf53 1 = .ok (.iload_n 1, 1) := by decide +kernel
theorem dJ6_compare_7cf53_2 : decode cJ6_compare_7cf53 2 = .ok (.if_icmp .ge 7, 3) := by decide +kernel
theorem dJ6_compare_7cf53_5 : decode cJ6_compare_7cf53 5 = .ok (.iconst (-1), 1) := by decide +kernel
theorem dJ6_compare_7cf53_6 : decode cJ6_compare_7cf53 6 = .ok (.goto 13, 3) := by decide +kernel
theorem dJ6_compare_7cf53_9 : decode cJ6_compare_7cf53 9 = .ok (.iload_n 0, 1) := by decide +kernel
theorem dJ6_compare_7cf53_10 : decode cJ6_compare_7cf53 10 = .ok (.iload_n 1, 1) := by decide +kernel
theorem dJ6_compare_7cf53_11 : decode cJ6_compare_7cf53 11 = .ok (.if_icmp .ne 7, 3) := by decide +kernel
theorem dJ6_compare_7cf53_14 : decode cJ6_compare_7cf53 14 = .ok (.iconst 0, 1) := by decide +kernel
theorem dJ6_compare_7cf53_15 : decode cJ6_compare_7cf53 15 = .ok (.goto 4, 3) := by decide +kernel
theorem dJ6_compare_7cf53_18 : decode cJ6_compare_7cf53 18 = .ok (.iconst 1, 1) := by decide +kernel
theorem dJ6_compare_7cf53_19 : decode cJ6_compare_7cf53 19 = .ok (.ireturn, 1) := by decide +kernel
theorem dJ9_max_7cf53_0 : decode cJ9_max_7cf53 0 = .ok (.iload_n 0, 1) := by decide +kernel
theorem dJ9_max_7cf53_1 : decode cJ9_max_7cf53 1 = .ok (.iload_n 1, 1) := by decide +kernel
theorem dJ9_max_7cf53_2 : decode cJ9_max_7cf53 2 = .ok (.if_icmp .lt 7, 3) := by decide +kernel
theorem dJ9_max_7cf53_5 : decode cJ9_max_7cf53 5 = .ok (.iload_n 0, 1) := by decide +kernel
theorem dJ9_max_7cf53_6 : decode cJ9_max_7cf53 6 = .ok (.goto 4, 3) := by decide +kernel
theorem dJ9_max_7cf53_9 : decode cJ9_max_7cf53 9 = .ok (.iload_n 1, 1) := by decide +kernel
theorem dJ9_max_7cf53_10 : decode cJ9_max_7cf53 10 = .ok (.ireturn, 1) := by decide +kernel
theorem dJ9_min_7cf53_0 : decode cJ9_min_7cf53 0 = .ok (.iload_n 0, 1) := by decide +kernel
theorem dJ9_min_7cf53_1 : decode cJ9_min_7cf53 1 = .ok (.iload_n 1, 1) := by decide +kernel
theorem dJ9_min_7cf53_2 : decode cJ9_min_7cf53 2 = .ok (.if_icmp .gt 7, 3) := by decide +kernel
theorem dJ9_min_7cf53_5 : decode cJ9_min_7cf53 5 = .ok (.iload_n 0, 1) := by decide +kernel
theorem dJ9_min_7cf53_6 : decode cJ9_min_7cf53 6 = .ok (.goto 4, 3) := by decide +kernel
theorem dJ9_min_7cf53_9 : decode cJ9_min_7cf53 9 = .ok (.iload_n 1, 1) := by decide +kernel
theorem dJ9_min_7cf53_10 : decode cJ9_min_7cf53 10 = .ok (.ireturn, 1) := by decide +kernel
theorem dJ7_fill_53178_0 : decode cJ7_fill_53178 0 = .ok (.iconst 0, 1) := by decide +kernel
theorem dJ7_fill_53178_1 : decode cJ7_fill_53178 1 = .ok (.istore_n 2, 1) := by decide +kernel
theorem dJ7_fill_53178_2 : decode cJ7_fill_53178 2 = .ok (.aload_n 0, 1) := by decide +kernel
theorem dJ7_fill_53178_3 : decode cJ7_fill_53178 3 = .ok (.arraylength, 1) := by decide +kernel
theorem dJ7_fill_53178_4 : decode cJ7_fill_53178 4 = .ok (.istore_n 3, 1) := by decide +kernel
theorem dJ7_fill_53178_5 : decode cJ7_fill_53178 5 = .ok (.iload_n 2, 1) := by decide +kernel
theorem dJ7_fill_53178_6 : decode cJ7_fill_53178 6 = .ok (.iload_n 3, 1) := by decide +kernel
theorem dJ7_fill_53178_7 : decode cJ7_fill_53178 7 = .ok (.if_icmp .ge 13, 3) := by decide +kernel
theorem dJ7_fill_53178_10 : decode cJ7_fill_53178 10 = .ok (.aload_n 0, 1) := by decide +kernel
theorem dJ7_fill_53178_11 : decode cJ7_fill_53178 11 = .ok (.iload_n 2, 1) := by decide +kernel
theorem dJ7_fill_53178_12 : decode cJ7_fill_53178 12 = .ok (.iload_n 1, 1) := by decide +kernel
theorem dJ7_fill_53178_13 : decode cJ7_fill_53178 13 = .ok (.iastore, 1) := by decide +kernel
theorem dJ7_fill_53178_14 : decode cJ7_fill_53178 14 = .ok (.iinc 2 1, 3) := by decide +kernel
theorem dJ7_fill_53178_17 : decode cJ7_fill_53178 17 = .ok (.goto (-12), 3) := by decide +kernel
theorem dJ7_fill_53178_20 : decode cJ7_fill_53178 20 = .ok (.return_, 1) := by decide +kernel
abbrev vwCl : List vw_C := [(RX0, TX0, 4), (RX1, TX1, 9), (RX2, TX2, 2), (RX3, TX3, 4), (RX4, TX4, 5), (RX5, TX5, 16)]
