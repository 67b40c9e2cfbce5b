theorem dX1_hasVertex_0 : decode cX1_hasVertex 0 = .ok (.iload_n 1, 1) := by decide +kernel
theorem dX1_hasVertex_1 : decode cX1_hasVertex 1 = .ok (.ifCond .lt 21, 3) := by decide +kernel
theorem dX1_hasVertex_4 : decode cX1_hasVertex 4 = .ok (.iload_n 1, 1) := by decide +kernel
theorem dX1_hasVertex_5 : decode cX1_hasVertex 5 = .ok (.aload_n 0, 1) := by decide +kernel
theorem dX1_hasVertex_6 : decode cX1_hasVertex 6 = .ok (.getfield 35, 3) := by decide +kernel
theorem dX1_hasVertex_9 : decode cX1_hasVertex 9 = .ok (.if_icmp .ge 13, 3) := by decide +kernel
theorem dX1_hasVertex_12 : decode cX1_hasVertex 12 = .ok (.iload_n 1, 1) := by decide +kernel
theorem dX1_hasVertex_13 : decode cX1_hasVertex 13 = .ok (.bipush 7, 2) := by decide +kernel
theorem dX1_hasVertex_15 : decode cX1_hasVertex 15 = .ok (.if_icmp .ge 7, 3) := by decide +kernel
theorem dX1_hasVertex_18 : decode cX1_hasVertex 18 = .ok (.iconst 1, 1) := by decide +kernel
theorem dX1_hasVertex_19 : decode cX1_hasVertex 19 = .ok (.goto 4, 3) := by decide +kernel
theorem dX1_hasVertex_22 : decode cX1_hasVertex 22 = .ok (.iconst 0, 1) := by decide +kernel
theorem dX1_hasVertex_23 : decode cX1_hasVertex 23 = .ok (.ireturn, 1) := by decide +kernel
theorem dX1_isFrom_0 : decode cX1_isFrom 0 = .ok (.iload_n 1, 1) := by decide +kernel
theorem dX1_isFrom_1 : decode cX1_isFrom 1 = .ok (.ifCond .lt 31, 3) := by decide +kernel
theorem dX1_isFrom_4 : decode cX1_isFrom 4 = .ok (.iload_n 1, 1) := by decide +kernel
theorem dX1_isFrom_5 : decode cX1_isFrom 5 = .ok (.aload_n 0, 1) := by decide +kernel
theorem dX1_isFrom_6 : decode cX1_isFrom 6 = .ok (.getfield 39, 3) := by decide +kernel
theorem dX1_isFrom_9 : decode cX1_isFrom 9 = .ok (.if_icmp .ge 23, 3) := by decide +kernel
theorem dX1_isFrom_12 : decode cX1_isFrom 12 = .ok (.iload_n 1, 1) := by decide +kernel
theorem dX1_isFrom_13 : decode cX1_isFrom 13 = .ok (.bipush 24, 2) := by decide +kernel
theorem dX1_isFrom_15 : decode cX1_isFrom 15 = .ok (.if_icmp .ge 17, 3) := by decide +kernel
theorem dX1_isFrom_18 : decode cX1_isFrom 18 = .ok (.aload_n 0, 1) := by decide +kernel
theorem dX1_isFrom_19 : decode cX1_isFrom 19 = .ok (.getfield 26, 3) := by decide +kernel
theorem dX1_isFrom_22 : decode cX1_isFrom 22 = .ok (.iload_n 1, 1) := by decide +kernel
theorem dX1_isFrom_23 : decode cX1_isFrom 23 = .ok (.iaload, 1) := by decide +kernel
theorem dX1_isFrom_24 : decode cX1_isFrom 24 = .ok (.iload_n 2, 1) := by decide +kernel
theorem dX1_isFrom_25 : decode cX1_isFrom 25 = .ok (.if_icmp .ne 7, 3) := by decide +kernel
theorem dX1_isFrom_28 : decode cX1_isFrom 28 = .ok (.iconst 1, 1) := by decide +kernel
theorem dX1_isFrom_29 : decode cX1_isFrom 29 = .ok (.goto 4, 3) := by decide +kernel
theorem dX1_isFrom_32 : decode cX1_isFrom 32 = .ok (.iconst 0, 1) := by decide +kernel
theorem dX1_isFrom_33 : decode cX1_isFrom 33 = .ok (.ireturn, 1) := by decide +kernel
set_option maxRecDepth 20000 in
theorem ggX1_ownerOf_X1_hasVertex : GoodIn wsX1_ownerOf wsX1_hasVertex := goodIn_r _ [6, 7, 8, 9, 10, 11, 12, 13, 14, 15, 16] (by decide +kernel) (by decide +kernel)
set_option maxRecDepth 20000 in
theorem gX1_ownerOf_X1_hasVertex : GoodIn wsX1_ownerOf (wsV RX1 42 RX1 yX1_hasVertex wsX1_hasVertex) := goodIn_app (goodIn_of _ (by decide +kernel)) ggX1_ownerOf_X1_hasVertex
theorem dX1_ownerOf_0 : decode cX1_ownerOf 0 = .ok (.aload_n 0, 1) := by decide +kernel
theorem dX1_ownerOf_1 : decode cX1_ownerOf 1 = .ok (.iload_n 1, 1) := by decide +kernel
theorem dX1_ownerOf_2 : decode cX1_ownerOf 2 = .ok (.invokevirtual 42, 3) := by decide +kernel
theorem dX1_ownerOf_5 : decode cX1_ownerOf 5 = .ok (.ifCond .eq 12, 3) := by decide +kernel
theorem dX1_ownerOf_8 : decode cX1_ownerOf 8 = .ok (.aload_n 0, 1) := by decide +kernel
theorem dX1_ownerOf_9 : decode cX1_ownerOf 9 = .ok (.getfield 9, 3) := by decide +kernel
theorem dX1_ownerOf_12 : decode cX1_ownerOf 12 = .ok (.iload_n 1, 1) := by decide +kernel
theorem dX1_ownerOf_13 : decode cX1_ownerOf 13 = .ok (.iaload, 1) := by decide +kernel
theorem dX1_ownerOf_14 : decode cX1_ownerOf 14 = .ok (.goto 4, 3) := by decide +kernel
theorem dX1_ownerOf_17 : decode cX1_ownerOf 17 = .ok (.iconst 0, 1) := by decide +kernel
theorem dX1_ownerOf_18 : decode cX1_ownerOf 18 = .ok (.ireturn, 1) := by decide +kernel
set_option maxRecDepth 20000 in
theorem ggX1_fixedOf_X1_hasVertex : GoodIn wsX1_fixedOf wsX1_hasVertex := goodIn_r _ [6, 7, 8, 9, 10, 11, 12, 13, 14, 15, 16] (by decide +kernel) (by decide +kernel)
set_option maxRecDepth 20000 in
theorem gX1_fixedOf_X1_hasVertex : GoodIn wsX1_fixedOf (wsV RX1 42 RX1 yX1_hasVertex wsX1_hasVertex) := goodIn_app (goodIn_of _ (by decide +kernel)) ggX1_fixedOf_X1_hasVertex
theorem dX1_fixedOf_0 : decode cX1_fixedOf 0 = .ok (.aload_n 0, 1) := by decide +kernel
theorem dX1_fixedOf_1 : decode cX1_fixedOf 1 = .ok (.iload_n 1, 1) := by decide +kernel
theorem dX1_fixedOf_2 : decode cX1_fixedOf 2 = .ok (.invokevirtual 42, 3) := by decide +kernel
theorem dX1_fixedOf_5 : decode cX1_fixedOf 5 = .ok (.ifCond .eq 12, 3) := by decide +kernel
theorem dX1_fixedOf_8 : decode cX1_fixedOf 8 = .ok (.aload_n 0, 1) := by decide +kernel
theorem dX1_fixedOf_9 : decode cX1_fixedOf 9 = .ok (.getfield 15, 3) := by decide +kernel
theorem dX1_fixedOf_12 : decode cX1_fixedOf 12 = .ok (.iload_n 1, 1) := by decide +kernel
theorem dX1_fixedOf_13 : decode cX1_fixedOf 13 = .ok (.iaload, 1) := by decide +kernel
theorem dX1_fixedOf_14 : decode cX1_fixedOf 14 = .ok (.goto 4, 3) := by decide +kernel
theorem dX1_fixedOf_17 : decode cX1_fixedOf 17 = .ok (.iconst (-1), 1) := by decide +kernel
theorem dX1_fixedOf_18 : decode cX1_fixedOf 18 = .ok (.ireturn, 1) := by decide +kernel
set_option maxRecDepth 20000 in
theorem ggX1_setFixed_X1_hasVertex : GoodIn wsX1_setFixed wsX1_hasVertex := goodIn_r _ [6, 7, 8, 9, 10, 11, 12, 13, 14, 15, 16] (by decide +kernel) (by decide +kernel)
set_option maxRecDepth 20000 in
theorem gX1_setFixed_X1_hasVertex : GoodIn wsX1_setFixed (wsV RX1 42 RX1 yX1_hasVertex wsX1_hasVertex) := goodIn_app (goodIn_of _ (by decide +kernel)) ggX1_setFixed_X1_hasVertex
theorem dX1_setFixed_0 : decode cX1_setFixed 0 = .ok (.aload_n 0, 1) := by decide +kernel
theorem dX1_setFixed_1 : decode cX1_setFixed 1 = .ok (.iload_n 1, 1) := by decide +kernel
theorem dX1_setFixed_2 : decode cX1_setFixed 2 = .ok (.invokevirtual 42, 3) := by decide +kernel
theorem dX1_setFixed_5 : decode cX1_setFixed 5 = .ok (.ifCond .eq 10, 3) := by decide +kernel
theorem dX1_setFixed_8 : decode cX1_setFixed 8 = .ok (.aload_n 0, 1) := by decide +kernel
theorem dX1_setFixed_9 : decode cX1_setFixed 9 = .ok (.getfield 15, 3) := by decide +kernel
theorem dX1_setFixed_12 : decode cX1_setFixed 12 = .ok (.iload_n 1, 1) := by decide +kernel
theorem dX1_setFixed_13 : decode cX1_setFixed 13 = .ok (.iload_n 2, 1) := by decide +kernel
theorem dX1_setFixed_14 : decode cX1_setFixed 14 = .ok (.iastore, 1) := by decide +kernel
theorem dX1_setFixed_15 : decode cX1_setFixed 15 = .ok (.return_, 1) := by decide +kernel
theorem dX1_targetOf_0 : decode cX1_targetOf 0 = .ok (.iload_n 1, 1) := by decide +kernel
theorem dX1_targetOf_1 : decode cX1_targetOf 1 = .ok (.ifCond .lt 18, 3) := by decide +kernel
theorem dX1_targetOf_4 : decode cX1_targetOf 4 = .ok (.iload_n 1, 1) := by decide +kernel
theorem dX1_targetOf_5 : decode cX1_targetOf 5 = .ok (.bipush 24, 2) := by decide +kernel
theorem dX1_targetOf_7 : decode cX1_targetOf 7 = .ok (.if_icmp .ge 12, 3) := by decide +kernel
theorem dX1_targetOf_10 : decode cX1_targetOf 10 = .ok (.aload_n 0, 1) := by decide +kernel
theorem dX1_targetOf_11 : decode cX1_targetOf 11 = .ok (.getfield 29, 3) := by decide +kernel
theorem dX1_targetOf_14 : decode cX1_targetOf 14 = .ok (.iload_n 1, 1) := by decide +kernel
theorem dX1_targetOf_15 : decode cX1_targetOf 15 = .ok (.iaload, 1) := by decide +kernel
theorem dX1_targetOf_16 : decode cX1_targetOf 16 = .ok (.goto 4, 3) := by decide +kernel
theorem dX1_targetOf_19 : decode cX1_targetOf 19 = .ok (.iconst (-1), 1) := by decide +kernel
theorem dX1_targetOf_20 : decode cX1_targetOf 20 = .ok (.ireturn, 1) := by decide +kernel
theorem dX1_weightOf_0 : decode cX1_weightOf 0 = .ok (.iload_n 1, 1) := by decide +kernel
theorem dX1_weightOf_1 : decode cX1_weightOf 1 = .ok (.ifCond .lt 18, 3) := by decide +kernel
theorem dX1_weightOf_4 : decode cX1_weightOf 4 = .ok (.iload_n 1, 1) := by decide +kernel
theorem dX1_weightOf_5 : decode cX1_weightOf 5 = .ok (.bipush 24, 2) := by decide +kernel
theorem dX1_weightOf_7 : decode cX1_weightOf 7 = .ok (.if_icmp .ge 12, 3) := by decide +kernel
theorem dX1_weightOf_10 : decode cX1_weightOf 10 = .ok (.aload_n 0, 1) := by decide +kernel
theorem dX1_weightOf_11 : decode cX1_weightOf 11 = .ok (.getfield 32, 3) := by decide +kernel
theorem dX1_weightOf_14 : decode cX1_weightOf 14 = .ok (.iload_n 1, 1) := by decide +kernel
theorem dX1_weightOf_15 : decode cX1_weightOf 15 = .ok (.iaload, 1) := by decide +kernel
theorem dX1_weightOf_16 : decode cX1_weightOf 16 = .ok (.goto 4, 3) := by decide +kernel
theorem dX1_weightOf_19 : decode cX1_weightOf 19 = .ok (.iconst 0, 1) := by decide +kernel
theorem dX1_weightOf_20 : decode cX1_weightOf 20 = .ok (.ireturn, 1) := by decide +kernel
set_option maxRecDepth 20000 in
theorem ggX1_waysFrom_X1_hasVertex : GoodIn wsX1_waysFrom wsX1_hasVertex := goodIn_r _ [7, 8, 9, 10, 11, 12, 13, 14, 15, 16, 17] (by decide +kernel) (by decide +kernel)
set_option maxRecDepth 20000 in
theorem gX1_waysFrom_X1_hasVertex : GoodIn wsX1_waysFrom (wsV RX1 42 RX1 yX1_hasVertex wsX1_hasVertex) := goodIn_app (goodIn_of _ (by decide +kernel)) ggX1_waysFrom_X1_hasVertex
theorem dX1_waysFrom_0 : decode cX1_waysFrom 0 = .ok (.aload_n 0, 1) := by decide +kernel
theorem dX1_waysFrom_1 : decode cX1_waysFrom 1 = .ok (.iload_n 1, 1) := by decide +kernel
theorem dX1_waysFrom_2 : decode cX1_waysFrom 2 = .ok (.invokevirtual 42, 3) := by decide +kernel
theorem dX1_waysFrom_5 : decode cX1_waysFrom 5 = .ok (.ifCond .ne 5, 3) := by decide +kernel
theorem dX1_waysFrom_8 : decode cX1_waysFrom 8 = .ok (.iconst 0, 1) := by decide +kernel
theorem dX1_waysFrom_9 : decode cX1_waysFrom 9 = .ok (.ireturn, 1) := by decide +kernel
theorem dX1_waysFrom_10 : decode cX1_waysFrom 10 = .ok (.aload_n 0, 1) := by decide +kernel
theorem dX1_waysFrom_11 : decode cX1_waysFrom 11 = .ok (.getfield 15, 3) := by decide +kernel
theorem dX1_waysFrom_14 : decode cX1_waysFrom 14 = .ok (.iload_n 1, 1) := by decide +kernel
theorem dX1_waysFrom_15 : decode cX1_waysFrom 15 = .ok (.iaload, 1) := by decide +kernel
theorem dX1_waysFrom_16 : decode cX1_waysFrom 16 = .ok (.iconst (-1), 1) := by decide +kernel
theorem dX1_waysFrom_17 : decode cX1_waysFrom 17 = .ok (.if_icmp .eq 7, 3) := by decide +kernel
theorem dX1_waysFrom_20 : decode cX1_waysFrom 20 = .ok (.iconst 1, 1) := by decide +kernel
theorem dX1_waysFrom_21 : decode cX1_waysFrom 21 = .ok (.goto 9, 3) := by decide +kernel
theorem dX1_waysFrom_24 : decode cX1_waysFrom 24 = .ok (.aload_n 0, 1) := by decide +kernel
theorem dX1_waysFrom_25 : decode cX1_waysFrom 25 = .ok (.getfield 18, 3) := by decide +kernel
theorem dX1_waysFrom_28 : decode cX1_waysFrom 28 = .ok (.iload_n 1, 1) := by decide +kernel
theorem dX1_waysFrom_29 : decode cX1_waysFrom 29 = .ok (.iaload, 1) := by decide +kernel
theorem dX1_waysFrom_30 : decode cX1_waysFrom 30 = .ok (.ireturn, 1) := by decide +kernel
set_option maxRecDepth 20000 in
theorem ggX1_wayFrom_X1_hasVertex : GoodIn wsX1_wayFrom wsX1_hasVertex := goodIn_r _ [8, 9, 10, 11, 12, 13, 14, 15, 16, 17, 18] (by decide +kernel) (by decide +kernel)
set_option maxRecDepth 20000 in
theorem gX1_wayFrom_X1_hasVertex : GoodIn wsX1_wayFrom (wsV RX1 42 RX1 yX1_hasVertex wsX1_hasVertex) := goodIn_app (goodIn_of _ (by decide +kernel)) ggX1_wayFrom_X1_hasVertex
theorem dX1_wayFrom_0 : decode cX1_wayFrom 0 = .ok (.aload_n 0, 1) := by decide +kernel
theorem dX1_wayFrom_1 : decode cX1_wayFrom 1 = .ok (.iload_n 1, 1) := by decide +kernel
theorem dX1_wayFrom_2 : decode cX1_wayFrom 2 = .ok (.invokevirtual 42, 3) := by decide +kernel
theorem dX1_wayFrom_5 : decode cX1_wayFrom 5 = .ok (.ifCond .eq 23, 3) := by decide +kernel
theorem dX1_wayFrom_8 : decode cX1_wayFrom 8 = .ok (.iload_n 2, 1) := by decide +kernel
theorem dX1_wayFrom_9 : decode cX1_wayFrom 9 = .ok (.ifCond .lt 19, 3) := by decide +kernel
theorem dX1_wayFrom_12 : decode cX1_wayFrom 12 = .ok (.iload_n 2, 1) := by decide +kernel
theorem dX1_wayFrom_13 : decode cX1_wayFrom 13 = .ok (.aload_n 0, 1) := by decide +kernel
theorem dX1_wayFrom_14 : decode cX1_wayFrom 14 = .ok (.getfield 18, 3) := by decide +kernel
theorem dX1_wayFrom_17 : decode cX1_wayFrom 17 = .ok (.iload_n 1, 1) := by decide +kernel
theorem dX1_wayFrom_18 : decode cX1_wayFrom 18 = .ok (.iaload, 1) := by decide +kernel
theorem dX1_wayFrom_19 : decode cX1_wayFrom 19 = .ok (.if_icmp .ge 9, 3) := by decide +kernel
theorem dX1_wayFrom_22 : decode cX1_wayFrom 22 = .ok (.iload_n 2, 1) := by decide +kernel
theorem dX1_wayFrom_23 : decode cX1_wayFrom 23 = .ok (.bipush 24, 2) := by decide +kernel
theorem dX1_wayFrom_25 : decode cX1_wayFrom 25 = .ok (.if_icmp .lt 5, 3) := by decide +kernel
theorem dX1_wayFrom_28 : decode cX1_wayFrom 28 = .ok (.iconst (-1), 1) := by decide +kernel
theorem dX1_wayFrom_29 : decode cX1_wayFrom 29 = .ok (.ireturn, 1) := by decide +kernel
theorem dX1_wayFrom_30 : decode cX1_wayFrom 30 = .ok (.aload_n 0, 1) := by decide +kernel
theorem dX1_wayFrom_31 : decode cX1_wayFrom 31 = .ok (.getfield 15, 3) := by decide +kernel
theorem dX1_wayFrom_34 : decode cX1_wayFrom 34 = .ok (.iload_n 1, 1) := by decide +kernel
theorem dX1_wayFrom_35 : decode cX1_wayFrom 35 = .ok (.iaload, 1) := by decide +kernel
theorem dX1_wayFrom_36 : decode cX1_wayFrom 36 = .ok (.iconst (-1), 1) := by decide +kernel
theorem dX1_wayFrom_37 : decode cX1_wayFrom 37 = .ok (.if_icmp .eq 12, 3) := by decide +kernel
theorem dX1_wayFrom_40 : decode cX1_wayFrom 40 = .ok (.aload_n 0, 1) := by decide +kernel
theorem dX1_wayFrom_41 : decode cX1_wayFrom 41 = .ok (.getfield 15, 3) := by decide +kernel
theorem dX1_wayFrom_44 : decode cX1_wayFrom 44 = .ok (.iload_n 1, 1) := by decide +kernel
theorem dX1_wayFrom_45 : decode cX1_wayFrom 45 = .ok (.iaload, 1) := by decide +kernel
theorem dX1_wayFrom_46 : decode cX1_wayFrom 46 = .ok (.goto 11, 3) := by decide +kernel
theorem dX1_wayFrom_49 : decode cX1_wayFrom 49 = .ok (.aload_n 0, 1) := by decide +kernel
theorem dX1_wayFrom_50 : decode cX1_wayFrom 50 = .ok (.getfield 23, 3) := by decide +kernel
theorem dX1_wayFrom_53 : decode cX1_wayFrom 53 = .ok (.iload_n 1, 1) := by decide +kernel
theorem dX1_wayFrom_54 : decode cX1_wayFrom 54 = .ok (.aaload, 1) := by decide +kernel
theorem dX1_wayFrom_55 : decode cX1_wayFrom 55 = .ok (.iload_n 2, 1) := by decide +kernel
theorem dX1_wayFrom_56 : decode cX1_wayFrom 56 = .ok (.iaload, 1) := by decide +kernel
theorem dX1_wayFrom_57 : decode cX1_wayFrom 57 = .ok (.ireturn, 1) := by decide +kernel
set_option maxRecDepth 20000 in
theorem ggX1_isComplete_X1_waysFrom : GoodIn wsX1_isComplete wsX1_waysFrom := goodIn_r _ [6, 7, 8, 9, 10, 11, 5, 12, 1, 13, 14, 15, 16, 17, 18, 19, 20, 21] (by decide +kernel) (by decide +kernel)
set_option maxRecDepth 20000 in
theorem gX1_isComplete_X1_waysFrom : GoodIn wsX1_isComplete (wsV RX1 46 RX1 yX1_waysFrom wsX1_waysFrom) := goodIn_app (goodIn_of _ (by decide +kernel)) ggX1_isComplete_X1_waysFrom
theorem dX1_isComplete_0 : decode cX1_isComplete 0 = .ok (.iconst 0, 1) := by decide +kernel
theorem dX1_isComplete_1 : decode cX1_isComplete 1 = .ok (.istore_n 1, 1) := by decide +kernel
theorem dX1_isComplete_2 : decode cX1_isComplete 2 = .ok (.iload_n 1, 1) := by decide +kernel
theorem dX1_isComplete_3 : decode cX1_isComplete 3 = .ok (.aload_n 0, 1) := by decide +kernel
theorem dX1_isComplete_4 : decode cX1_isComplete 4 = .ok (.getfield 35, 3) := by decide +kernel
theorem dX1_isComplete_7 : decode cX1_isComplete 7 = .ok (.if_icmp .ge 19, 3) := by decide +kernel
theorem dX1_isComplete_10 : decode cX1_isComplete 10 = .ok (.aload_n 0, 1) := by decide +kernel
theorem dX1_isComplete_11 : decode cX1_isComplete 11 = .ok (.iload_n 1, 1) := by decide +kernel
theorem dX1_isComplete_12 : decode cX1_isComplete 12 = .ok (.invokevirtual 46, 3) := by decide +kernel
theorem dX1_isComplete_15 : decode cX1_isComplete 15 = .ok (.ifCond .ne 5, 3) := by decide +kernel
theorem dX1_isComplete_18 : decode cX1_isComplete 18 = .ok (.iconst 0, 1) := by decide +kernel
theorem dX1_isComplete_19 : decode cX1_isComplete 19 = .ok (.ireturn, 1) := by decide +kernel
theorem dX1_isComplete_20 : decode cX1_isComplete 20 = .ok (.iinc 1 1, 3) := by decide +kernel
theorem dX1_isComplete_23 : decode cX1_isComplete 23 = .ok (.goto (-21), 3) := by decide +kernel
theorem dX1_isComplete_26 : decode cX1_isComplete 26 = .ok (.aload_n 0, 1) := by decide +kernel
theorem dX1_isComplete_27 : decode cX1_isComplete 27 = .ok (.getfield 35, 3) := by decide +kernel
theorem dX1_isComplete_30 : decode cX1_isComplete 30 = .ok (.ifCond .le 7, 3) := by decide +kernel
theorem dX1_isComplete_33 : decode cX1_isComplete 33 = .ok (.iconst 1, 1) := by decide +kernel
theorem dX1_isComplete_34 : decode cX1_isComplete 34 = .ok (.goto 4, 3) := by decide +kernel
theorem dX1_isComplete_37 : decode cX1_isComplete 37 = .ok (.iconst 0, 1) := by decide +kernel
theorem dX1_isComplete_38 : decode cX1_isComplete 38 = .ok (.ireturn, 1) := by decide +kernel
theorem dX2_init_0 : decode cX2_init 0 = .ok (.aload_n 0, 1) := by decide +kernel
theorem dX2_init_1 : decode cX2_init 1 = .ok (.invokespecial 3, 3) := by decide +kernel
theorem dX2_init_4 : decode cX2_init 4 = .ok (.aload_n 0, 1) := by decide +kernel
theorem dX2_init_5 : decode cX2_init 5 = .ok (.bipush 7, 2) := by decide +kernel
theorem dX2_init_7 : decode cX2_init 7 = .ok (.newarray .int, 2) := by decide +kernel
theorem dX2_init_9 : decode cX2_init 9 = .ok (.putfield 9, 3) := by decide +kernel
theorem dX2_init_12 : decode cX2_init 12 = .ok (.aload_n 0, 1) := by decide +kernel
theorem dX2_init_13 : decode cX2_init 13 = .ok (.bipush 7, 2) := by decide +kernel
theorem dX2_init_15 : decode cX2_init 15 = .ok (.newarray .int, 2) := by decide +kernel
theorem dX2_init_17 : decode cX2_init 17 = .ok (.putfield 15, 3) := by decide +kernel
theorem dX2_init_20 : decode cX2_init 20 = .ok (.return_, 1) := by decide +kernel
set_option maxRecDepth 20000 in
theorem ggX2_clear_J7_fill_53178 : GoodIn wsX2_clear wsJ7_fill_53178 := goodIn_r _ [5] (by decide +kernel) (by decide +kernel)
set_option maxRecDepth 20000 in
theorem gX2_clear_J7_fill_53178 : GoodIn wsX2_clear (va_wsS RX2 18 yJ7_fill_53178 wsJ7_fill_53178) := goodIn_app (goodIn_of _ (by decide +kernel)) ggX2_clear_J7_fill_53178
theorem dX2_clear_0 : decode cX2_clear 0 = .ok (.aload_n 0, 1) := by decide +kernel
theorem dX2_clear_1 : decode cX2_clear 1 = .ok (.getfield 9, 3) := by decide +kernel
theorem dX2_clear_4 : decode cX2_clear 4 = .ok (.iconst (-1), 1) := by decide +kernel
theorem dX2_clear_5 : decode cX2_clear 5 = .ok (.invokestatic 18, 3) := by decide +kernel
theorem dX2_clear_8 : decode cX2_clear 8 = .ok (.return_, 1) := by decide +kernel
theorem dX2_isPlace_0 : decode cX2_isPlace 0 = .ok (.iload_n 1, 1) := by decide +kernel
theorem dX2_isPlace_1 : decode cX2_isPlace 1 = .ok (.ifCond .lt 13, 3) := by decide +kernel
theorem dX2_isPlace_4 : decode cX2_isPlace 4 = .ok (.iload_n 1, 1) := by decide +kernel
theorem dX2_isPlace_5 : decode cX2_isPlace 5 = .ok (.bipush 7, 2) := by decide +kernel
theorem dX2_isPlace_7 : decode cX2_isPlace 7 = .ok (.if_icmp .ge 7, 3) := by decide +kernel
theorem dX2_isPlace_10 : decode cX2_isPlace 10 = .ok (.iconst 1, 1) := by decide +kernel
theorem dX2_isPlace_11 : decode cX2_isPlace 11 = .ok (.goto 4, 3) := by decide +kernel
theorem dX2_isPlace_14 : decode cX2_isPlace 14 = .ok (.iconst 0, 1) := by decide +kernel
theorem dX2_isPlace_15 : decode cX2_isPlace 15 = .ok (.ireturn, 1) := by decide +kernel
set_option maxRecDepth 20000 in
theorem ggX2_has_X2_isPlace : GoodIn wsX2_has wsX2_isPlace := goodIn_r _ [6] (by decide +kernel) (by decide +kernel)
set_option maxRecDepth 20000 in
theorem gX2_has_X2_isPlace : GoodIn wsX2_has (wsV RX2 24 RX2 yX2_isPlace wsX2_isPlace) := goodIn_app (goodIn_of _ (by decide +kernel)) ggX2_has_X2_isPlace
theorem dX2_has_0 : decode cX2_has 0 = .ok (.aload_n 0, 1) := by decide +kernel
theorem dX2_has_1 : decode cX2_has 1 = .ok (.iload_n 1, 1) := by decide +kernel
theorem dX2_has_2 : decode cX2_has 2 = .ok (.invokevirtual 24, 3) := by decide +kernel
theorem dX2_has_5 : decode cX2_has 5 = .ok (.ifCond .eq 17, 3) := by decide +kernel
theorem dX2_has_8 : decode cX2_has 8 = .ok (.aload_n 0, 1) := by decide +kernel
theorem dX2_has_9 : decode cX2_has 9 = .ok (.getfield 9, 3) := by decide +kernel
theorem dX2_has_12 : decode cX2_has 12 = .ok (.iload_n 1, 1) := by decide +kernel
theorem dX2_has_13 : decode cX2_has 13 = .ok (.iaload, 1) := by decide +kernel
theorem dX2_has_14 : decode cX2_has 14 = .ok (.iconst (-1), 1) := by decide +kernel
theorem dX2_has_15 : decode cX2_has 15 = .ok (.if_icmp .eq 7, 3) := by decide +kernel
theorem dX2_has_18 : decode cX2_has 18 = .ok (.iconst 1, 1) := by decide +kernel
theorem dX2_has_19 : decode cX2_has 19 = .ok (.goto 4, 3) := by decide +kernel
theorem dX2_has_22 : decode cX2_has 22 = .ok (.iconst 0, 1) := by decide +kernel
theorem dX2_has_23 : decode cX2_has 23 = .ok (.ireturn, 1) := by decide +kernel
set_option maxRecDepth 20000 in
theorem ggX2_enter_X2_isPlace : GoodIn wsX2_enter wsX2_isPlace := goodIn_r _ [7] (by decide +kernel) (by decide +kernel)
set_option maxRecDepth 20000 in
theorem gX2_enter_X2_isPlace : GoodIn wsX2_enter (wsV RX2 24 RX2 yX2_isPlace wsX2_isPlace) := goodIn_app (goodIn_of _ (by decide +kernel)) ggX2_enter_X2_isPlace
theorem dX2_enter_0 : decode cX2_enter 0 = .ok (.aload_n 0, 1) := by decide +kernel
theorem dX2_enter_1 : decode cX2_enter 1 = .ok (.iload_n 1, 1) := by decide +kernel
theorem dX2_enter_2 : decode cX2_enter 2 = .ok (.invokevirtual 24, 3) := by decide +kernel
theorem dX2_enter_5 : decode cX2_enter 5 = .ok (.ifCond .eq 17, 3) := by decide +kernel
theorem dX2_enter_8 : decode cX2_enter 8 = .ok (.aload_n 0, 1) := by decide +kernel
theorem dX2_enter_9 : decode cX2_enter 9 = .ok (.getfield 9, 3) := by decide +kernel
theorem dX2_enter_12 : decode cX2_enter 12 = .ok (.iload_n 1, 1) := by decide +kernel
theorem dX2_enter_13 : decode cX2_enter 13 = .ok (.iload_n 2, 1) := by decide +kernel
theorem dX2_enter_14 : decode cX2_enter 14 = .ok (.iastore, 1) := by decide +kernel
theorem dX2_enter_15 : decode cX2_enter 15 = .ok (.aload_n 0, 1) := by decide +kernel
theorem dX2_enter_16 : decode cX2_enter 16 = .ok (.getfield 15, 3) := by decide +kernel
theorem dX2_enter_19 : decode cX2_enter 19 = .ok (.iload_n 1, 1) := by decide +kernel
theorem dX2_enter_20 : decode cX2_enter 20 = .ok (.iload_n 3, 1) := by decide +kernel
theorem dX2_enter_21 : decode cX2_enter 21 = .ok (.iastore, 1) := by decide +kernel
theorem dX2_enter_22 : decode cX2_enter 22 = .ok (.return_, 1) := by decide +kernel
set_option maxRecDepth 20000 in
theorem ggX2_leave_X2_isPlace : GoodIn wsX2_leave wsX2_isPlace := goodIn_r _ [6] (by decide +kernel) (by decide +kernel)
set_option maxRecDepth 20000 in
theorem gX2_leave_X2_isPlace : GoodIn wsX2_leave (wsV RX2 24 RX2 yX2_isPlace wsX2_isPlace) := goodIn_app (goodIn_of _ (by decide +kernel)) ggX2_leave_X2_isPlace
theorem dX2_leave_0 : decode cX2_leave 0 = .ok (.aload_n 0, 1) := by decide +kernel
theorem dX2_leave_1 : decode cX2_leave 1 = .ok (.iload_n 1, 1) := by decide +kernel
theorem dX2_leave_2 : decode cX2_leave 2 = .ok (.invokevirtual 24, 3) := by decide +kernel
theorem dX2_leave_5 : decode cX2_leave 5 = .ok (.ifCond .eq 10, 3) := by decide +kernel
theorem dX2_leave_8 : decode cX2_leave 8 = .ok (.aload_n 0, 1) := by decide +kernel
theorem dX2_leave_9 : decode cX2_leave 9 = .ok (.getfield 9, 3) := by decide +kernel
theorem dX2_leave_12 : decode cX2_leave 12 = .ok (.iload_n 1, 1) := by decide +kernel
theorem dX2_leave_13 : decode cX2_leave 13 = .ok (.iconst (-1), 1) := by decide +kernel
theorem dX2_leave_14 : decode cX2_leave 14 = .ok (.iastore, 1) := by decide +kernel
theorem dX2_leave_15 : decode cX2_leave 15 = .ok (.return_, 1) := by decide +kernel
set_option maxRecDepth 20000 in
theorem ggX2_stepsTo_X2_isPlace : GoodIn wsX2_stepsTo wsX2_isPlace := goodIn_r _ [6] (by decide +kernel) (by decide +kernel)
set_option maxRecDepth 20000 in
theorem gX2_stepsTo_X2_isPlace : GoodIn wsX2_stepsTo (wsV RX2 24 RX2 yX2_isPlace wsX2_isPlace) := goodIn_app (goodIn_of _ (by decide +kernel)) ggX2_stepsTo_X2_isPlace
theorem dX2_stepsTo_0 : decode cX2_stepsTo 0 = .ok (.aload_n 0, 1) := by decide +kernel
theorem dX2_stepsTo_1 : decode cX2_stepsTo 1 = .ok (.iload_n 1, 1) := by decide +kernel
theorem dX2_stepsTo_2 : decode cX2_stepsTo 2 = .ok (.invokevirtual 24, 3) := by decide +kernel
theorem dX2_stepsTo_5 : decode cX2_stepsTo 5 = .ok (.ifCond .eq 12, 3) := by decide +kernel
theorem dX2_stepsTo_8 : decode cX2_stepsTo 8 = .ok (.aload_n 0, 1) := by decide +kernel
theorem dX2_stepsTo_9 : decode cX2_stepsTo 9 = .ok (.getfield 9, 3) := by decide +kernel
theorem dX2_stepsTo_12 : decode cX2_stepsTo 12 = .ok (.iload_n 1, 1) := by decide +kernel
theorem dX2_stepsTo_13 : decode cX2_stepsTo 13 = .ok (.iaload, 1) := by decide +kernel
theorem dX2_stepsTo_14 : decode cX2_stepsTo 14 = .ok (.goto 4, 3) := by decide +kernel
theorem dX2_stepsTo_17 : decode cX2_stepsTo 17 = .ok (.iconst (-1), 1) := by decide +kernel
theorem dX2_stepsTo_18 : decode cX2_stepsTo 18 = .ok (.ireturn, 1) := by decide +kernel
set_option maxRecDepth 20000 in
theorem ggX2_sumTo_X2_isPlace : GoodIn wsX2_sumTo wsX2_isPlace := goodIn_r _ [6] (by decide +kernel) (by decide +kernel)
set_option maxRecDepth 20000 in
theorem gX2_sumTo_X2_isPlace : GoodIn wsX2_sumTo (wsV RX2 24 RX2 yX2_isPlace wsX2_isPlace) := goodIn_app (goodIn_of _ (by decide +kernel)) ggX2_sumTo_X2_isPlace
theorem dX2_sumTo_0 : decode cX2_sumTo 0 = .ok (.aload_n 0, 1) := by decide +kernel
theorem dX2_sumTo_1 : decode cX2_sumTo 1 = .ok (.iload_n 1, 1) := by decide +kernel
theorem dX2_sumTo_2 : decode cX2_sumTo 2 = .ok (.invokevirtual 24, 3) := by decide +kernel
theorem dX2_sumTo_5 : decode cX2_sumTo 5 = .ok (.ifCond .eq 12, 3) := by decide +kernel
theorem dX2_sumTo_8 : decode cX2_sumTo 8 = .ok (.aload_n 0, 1) := by decide +kernel
theorem dX2_sumTo_9 : decode cX2_sumTo 9 = .ok (.getfield 15, 3) := by decide +kernel
theorem dX2_sumTo_12 : decode cX2_sumTo 12 = .ok (.iload_n 1, 1) := by decide +kernel
theorem dX2_sumTo_13 : decode cX2_sumTo 13 = .ok (.iaload, 1) := by decide +kernel
theorem dX2_sumTo_14 : decode cX2_sumTo 14 = .ok (.goto 4, 3) := by decide +kernel
theorem dX2_sumTo_17 : decode cX2_sumTo 17 = .ok (.iconst 0, 1) := by decide +kernel
theorem dX2_sumTo_18 : decode cX2_sumTo 18 = .ok (.ireturn, 1) := by decide +kernel
set_option maxRecDepth 20000 in
theorem ggX3_init_X2_init : GoodIn wsX3_init wsX2_init := goodIn_r _ [14, 15, 2, 3, 10, 16, 17, 18, 19] (by decide +kernel) (by decide +kernel)
set_option maxRecDepth 20000 in
theorem gX3_init_X2_init_n11 : GoodIn wsX3_init (wsX2_init) := ggX3_init_X2_init
theorem dX3_init_0 : decode cX3_init 0 = .ok (.aload_n 0, 1) := by decide +kernel
theorem dX3_init_1 : decode cX3_init 1 = .ok (.invokespecial 3, 3) := by decide +kernel
theorem dX3_init_4 : decode cX3_init 4 = .ok (.aload_n 0, 1) := by decide +kernel
theorem dX3_init_5 : decode cX3_init 5 = .ok (.new 9, 3) := by decide +kernel
theorem dX3_init_8 : decode cX3_init 8 = .ok (.dup, 1) := by decide +kernel
theorem dX3_init_9 : decode cX3_init 9 = .ok (.invokespecial 11, 3) := by decide +kernel
theorem dX3_init_12 : decode cX3_init 12 = .ok (.putfield 12, 3) := by decide +kernel
theorem dX3_init_15 : decode cX3_init 15 = .ok (.aload_n 0, 1) := by decide +kernel
theorem dX3_init_16 : decode cX3_init 16 = .ok (.bipush 7, 2) := by decide +kernel
theorem dX3_init_18 : decode cX3_init 18 = .ok (.newarray .boolean, 2) := by decide +kernel
theorem dX3_init_20 : decode cX3_init 20 = .ok (.putfield 18, 3) := by decide +kernel
theorem dX3_init_23 : decode cX3_init 23 = .ok (.aload_n 0, 1) := by decide +kernel
theorem dX3_init_24 : decode cX3_init 24 = .ok (.bipush 7, 2) := by decide +kernel
theorem dX3_init_26 : decode cX3_init 26 = .ok (.newarray .int, 2) := by decide +kernel
theorem dX3_init_28 : decode cX3_init 28 = .ok (.putfield 22, 3) := by decide +kernel
theorem dX3_init_31 : decode cX3_init 31 = .ok (.aload_n 0, 1) := by decide +kernel
theorem dX3_init_32 : decode cX3_init 32 = .ok (.aload_n 1, 1) := by decide +kernel
theorem dX3_init_33 : decode cX3_init 33 = .ok (.putfield 26, 3) := by decide +kernel
theorem dX3_init_36 : decode cX3_init 36 = .ok (.return_, 1) := by decide +kernel
theorem dX3_forget_0 : decode cX3_forget 0 = .ok (.iconst 0, 1) := by decide +kernel
theorem dX3_forget_1 : decode cX3_forget 1 = .ok (.istore_n 1, 1) := by decide +kernel
theorem dX3_forget_2 : decode cX3_forget 2 = .ok (.iload_n 1, 1) := by decide +kernel
theorem dX3_forget_3 : decode cX3_forget 3 = .ok (.bipush 7, 2) := by decide +kernel
theorem dX3_forget_5 : decode cX3_forget 5 = .ok (.if_icmp .ge 16, 3) := by decide +kernel
theorem dX3_forget_8 : decode cX3_forget 8 = .ok (.aload_n 0, 1) := by decide +kernel
theorem dX3_forget_9 : decode cX3_forget 9 = .ok (.getfield 18, 3) := by decide +kernel
theorem dX3_forget_12 : decode cX3_forget 12 = .ok (.iload_n 1, 1) := by decide +kernel
theorem dX3_forget_13 : decode cX3_forget 13 = .ok (.iconst 0, 1) := by decide +kernel
theorem dX3_forget_14 : decode cX3_forget 14 = .ok (.bastore, 1) := by decide +kernel
theorem dX3_forget_15 : decode cX3_forget 15 = .ok (.iinc 1 1, 3) := by decide +kernel
theorem dX3_forget_18 : decode cX3_forget 18 = .ok (.goto (-16), 3) := by decide +kernel
theorem dX3_forget_21 : decode cX3_forget 21 = .ok (.return_, 1) := by decide +kernel
set_option maxRecDepth 20000 in
theorem ggX3_findAll_X3_find : GoodIn wsX3_findAll wsX3_find := goodIn_r _ [5, 6, 7, 8, 9, 10, 11, 12, 13, 14, 15, 16, 17, 18, 19, 20, 21, 22, 23, 24, 25, 26, 27, 28, 4, 29, 30, 31, 32, 33, 34, 35, 36, 37, 38, 39, 40, 41, 42, 43, 44, 45, 46, 47, 48, 49, 50, 51, 52, 53, 54, 55, 56, 57, 58, 59, 60, 61, 62, 63, 64, 65, 66, 67, 68, 69, 70, 71, 72, 73, 74, 75, 76, 77, 78, 79, 80, 81, 82, 83, 84, 85, 86, 87, 88, 89, 90, 91, 92, 93, 94, 95, 96, 97, 98, 99, 100, 101, 102, 103, 104] (by decide +kernel) (by decide +kernel)
set_option maxRecDepth 20000 in
theorem gX3_findAll_X3_find : GoodIn wsX3_findAll (wsV RX3 30 RX3 yX3_find wsX3_find) := goodIn_app (goodIn_of _ (by decide +kernel)) ggX3_findAll_X3_find
theorem dX3_findAll_0 : decode cX3_findAll 0 = .ok (.iconst 0, 1) := by decide +kernel
theorem dX3_findAll_1 : decode cX3_findAll 1 = .ok (.istore_n 1, 1) := by decide +kernel
theorem dX3_findAll_2 : decode cX3_findAll 2 = .ok (.iload_n 1, 1) := by decide +kernel
theorem dX3_findAll_3 : decode cX3_findAll 3 = .ok (.bipush 7, 2) := by decide +kernel
theorem dX3_findAll_5 : decode cX3_findAll 5 = .ok (.if_icmp .ge 14, 3) := by decide +kernel
theorem dX3_findAll_8 : decode cX3_findAll 8 = .ok (.aload_n 0, 1) := by decide +kernel
theorem dX3_findAll_9 : decode cX3_findAll 9 = .ok (.iload_n 1, 1) := by decide +kernel
theorem dX3_findAll_10 : decode cX3_findAll 10 = .ok (.invokevirtual 30, 3) := by decide +kernel
theorem dX3_findAll_13 : decode cX3_findAll 13 = .ok (.iinc 1 1, 3) := by decide +kernel
theorem dX3_findAll_16 : decode cX3_findAll 16 = .ok (.goto (-14), 3) := by decide +kernel
theorem dX3_findAll_19 : decode cX3_findAll 19 = .ok (.return_, 1) := by decide +kernel
set_option maxRecDepth 20000 in
theorem ggX3_find_X1_hasVertex : GoodIn wsX3_find wsX1_hasVertex := goodIn_r _ [10, 11, 90, 91, 92, 93, 94, 95, 96, 97, 98] (by decide +kernel) (by decide +kernel)
set_option maxRecDepth 20000 in
theorem gX3_find_X1_hasVertex_n34 : GoodIn wsX3_find (wsX1_hasVertex) := ggX3_find_X1_hasVertex
set_option maxRecDepth 20000 in
theorem ggX3_find_X2_clear : GoodIn wsX3_find wsX2_clear := goodIn_r _ [15, 16, 17, 18, 19, 20, 99, 100] (by decide +kernel) (by decide +kernel)
set_option maxRecDepth 20000 in
theorem gX3_find_X2_clear_n40 : GoodIn wsX3_find (wsX2_clear) := ggX3_find_X2_clear
set_option maxRecDepth 20000 in
theorem ggX3_find_X3_playAt : GoodIn wsX3_find wsX3_playAt := goodIn_r _ [25, 1, 3, 7, 8, 9, 10, 11, 26, 13, 27, 28, 16, 29, 30, 31, 32, 33, 34, 35, 36, 37, 38, 39, 40, 41, 24, 42, 43, 44, 45, 46, 47, 48, 49, 50, 51, 52, 53, 54, 55, 56, 57, 58, 59, 60, 5, 61, 62, 63, 64, 65, 66, 67, 68, 69, 70, 71, 72, 73, 74, 75, 76, 77, 78, 79, 80, 81, 21, 22, 23, 82, 6, 83, 84, 85, 86, 87, 88, 89, 90, 91, 92, 93, 94, 95, 96, 97, 98, 99, 100] (by decide +kernel) (by decide +kernel)
set_option maxRecDepth 20000 in
theorem gX3_find_X3_playAt : GoodIn wsX3_find (wsV RX3 45 RX3 yX3_playAt wsX3_playAt) := goodIn_app (goodIn_of _ (by decide +kernel)) ggX3_find_X3_playAt
theorem dX3_find_0 : decode cX3_find 0 = .ok (.aload_n 0, 1) := by decide +kernel
theorem dX3_find_1 : decode cX3_find 1 = .ok (.getfield 26, 3) := by decide +kernel
theorem dX3_find_4 : decode cX3_find 4 = .ok (.iload_n 1, 1) := by decide +kernel
theorem dX3_find_5 : decode cX3_find 5 = .ok (.invokevirtual 34, 3) := by decide +kernel
theorem dX3_find_8 : decode cX3_find 8 = .ok (.ifCond .eq 43, 3) := by decide +kernel
theorem dX3_find_11 : decode cX3_find 11 = .ok (.aload_n 0, 1) := by decide +kernel
theorem dX3_find_12 : decode cX3_find 12 = .ok (.getfield 18, 3) := by decide +kernel
theorem dX3_find_15 : decode cX3_find 15 = .ok (.iload_n 1, 1) := by decide +kernel
theorem dX3_find_16 : decode cX3_find 16 = .ok (.baload, 1) := by decide +kernel
theorem dX3_find_17 : decode cX3_find 17 = .ok (.ifCond .ne 34, 3) := by decide +kernel
theorem dX3_find_20 : decode cX3_find 20 = .ok (.aload_n 0, 1) := by decide +kernel
theorem dX3_find_21 : decode cX3_find 21 = .ok (.getfield 12, 3) := by decide +kernel
theorem dX3_find_24 : decode cX3_find 24 = .ok (.invokevirtual 40, 3) := by decide +kernel
theorem dX3_find_27 : decode cX3_find 27 = .ok (.aload_n 0, 1) := by decide +kernel
theorem dX3_find_28 : decode cX3_find 28 = .ok (.getfield 22, 3) := by decide +kernel
theorem dX3_find_31 : decode cX3_find 31 = .ok (.iload_n 1, 1) := by decide +kernel
theorem dX3_find_32 : decode cX3_find 32 = .ok (.aload_n 0, 1) := by decide +kernel
theorem dX3_find_33 : decode cX3_find 33 = .ok (.iload_n 1, 1) := by decide +kernel
theorem dX3_find_34 : decode cX3_find 34 = .ok (.iconst 0, 1) := by decide +kernel
theorem dX3_find_35 : decode cX3_find 35 = .ok (.iconst 0, 1) := by decide +kernel
theorem dX3_find_36 : decode cX3_find 36 = .ok (.ldc 43, 2) := by decide +kernel
theorem dX3_find_38 : decode cX3_find 38 = .ok (.ldc 44, 2) := by decide +kernel
theorem dX3_find_40 : decode cX3_find 40 = .ok (.invokevirtual 45, 3) := by decide +kernel
theorem dX3_find_43 : decode cX3_find 43 = .ok (.iastore, 1) := by decide +kernel
theorem dX3_find_44 : decode cX3_find 44 = .ok (.aload_n 0, 1) := by decide +kernel
theorem dX3_find_45 : decode cX3_find 45 = .ok (.getfield 18, 3) := by decide +kernel
theorem dX3_find_48 : decode cX3_find 48 = .ok (.iload_n 1, 1) := by decide +kernel
theorem dX3_find_49 : decode cX3_find 49 = .ok (.iconst 1, 1) := by decide +kernel
theorem dX3_find_50 : decode cX3_find 50 = .ok (.bastore, 1) := by decide +kernel
theorem dX3_find_51 : decode cX3_find 51 = .ok (.return_, 1) := by decide +kernel
set_option maxRecDepth 20000 in
theorem ggX3_topOf_X3_partsOf : GoodIn wsX3_topOf wsX3_partsOf := goodIn_r _ [5, 6, 7, 8, 9, 10, 11, 12, 17, 18, 19, 20, 21, 22, 23, 24, 25, 26, 27, 28, 29] (by decide +kernel) (by decide +kernel)
set_option maxRecDepth 20000 in
theorem gX3_topOf_X3_partsOf : GoodIn wsX3_topOf (wsV RX3 49 RX3 yX3_partsOf wsX3_partsOf) := goodIn_app (goodIn_of _ (by decide +kernel)) ggX3_topOf_X3_partsOf
set_option maxRecDepth 20000 in
theorem ggX3_topOf_X3_bottomOf : GoodIn wsX3_topOf wsX3_bottomOf := goodIn_r _ [16, 1, 2, 3, 4, 5, 6, 7, 8, 9, 10, 11, 12, 17, 18, 19, 20, 21, 22, 23, 24, 25, 26, 27, 28, 29] (by decide +kernel) (by decide +kernel)
set_option maxRecDepth 20000 in
theorem gX3_topOf_X3_bottomOf : GoodIn wsX3_topOf (wsV RX3 53 RX3 yX3_bottomOf wsX3_bottomOf) := goodIn_app (goodIn_of _ (by decide +kernel)) ggX3_topOf_X3_bottomOf
theorem dX3_topOf_0 : decode cX3_topOf 0 = .ok (.aload_n 0, 1) := by decide +kernel
theorem dX3_topOf_1 : decode cX3_topOf 1 = .ok (.iload_n 1, 1) := by decide +kernel
theorem dX3_topOf_2 : decode cX3_topOf 2 = .ok (.invokevirtual 49, 3) := by decide +kernel
theorem dX3_topOf_5 : decode cX3_topOf 5 = .ok (.aload_n 0, 1) := by decide +kernel
theorem dX3_topOf_6 : decode cX3_topOf 6 = .ok (.iload_n 1, 1) := by decide +kernel
theorem dX3_topOf_7 : decode cX3_topOf 7 = .ok (.invokevirtual 53, 3) := by decide +kernel
theorem dX3_topOf_10 : decode cX3_topOf 10 = .ok (.imul, 1) := by decide +kernel
theorem dX3_topOf_11 : decode cX3_topOf 11 = .ok (.sipush 420, 3) := by decide +kernel
theorem dX3_topOf_14 : decode cX3_topOf 14 = .ok (.idiv, 1) := by decide +kernel
theorem dX3_topOf_15 : decode cX3_topOf 15 = .ok (.ireturn, 1) := by decide +kernel
set_option maxRecDepth 20000 in
theorem ggX3_bottomOf_X3_partsOf : GoodIn wsX3_bottomOf wsX3_partsOf := goodIn_r _ [5, 6, 7, 8, 9, 10, 11, 12, 13, 14, 15, 16, 17, 18, 19, 20, 21, 22, 23, 24, 25] (by decide +kernel) (by decide +kernel)
set_option maxRecDepth 20000 in
theorem gX3_bottomOf_X3_partsOf : GoodIn wsX3_bottomOf (wsV RX3 49 RX3 yX3_partsOf wsX3_partsOf) := goodIn_app (goodIn_of _ (by decide +kernel)) ggX3_bottomOf_X3_partsOf
theorem dX3_bottomOf_0 : decode cX3_bottomOf 0 = .ok (.iconst 1, 1) := by decide +kernel
theorem dX3_bottomOf_1 : decode cX3_bottomOf 1 = .ok (.istore_n 2, 1) := by decide +kernel
theorem dX3_bottomOf_2 : decode cX3_bottomOf 2 = .ok (.iload_n 2, 1) := by decide +kernel
theorem dX3_bottomOf_3 : decode cX3_bottomOf 3 = .ok (.bipush 7, 2) := by decide +kernel
theorem dX3_bottomOf_5 : decode cX3_bottomOf 5 = .ok (.if_icmp .ge 25, 3) := by decide +kernel
theorem dX3_bottomOf_8 : decode cX3_bottomOf 8 = .ok (.aload_n 0, 1) := by decide +kernel
theorem dX3_bottomOf_9 : decode cX3_bottomOf 9 = .ok (.iload_n 1, 1) := by decide +kernel
theorem dX3_bottomOf_10 : decode cX3_bottomOf 10 = .ok (.invokevirtual 49, 3) := by decide +kernel
theorem dX3_bottomOf_13 : decode cX3_bottomOf 13 = .ok (.iload_n 2, 1) := by decide +kernel
theorem dX3_bottomOf_14 : decode cX3_bottomOf 14 = .ok (.imul, 1) := by decide +kernel
theorem dX3_bottomOf_15 : decode cX3_bottomOf 15 = .ok (.sipush 420, 3) := by decide +kernel
theorem dX3_bottomOf_18 : decode cX3_bottomOf 18 = .ok (.irem, 1) := by decide +kernel
theorem dX3_bottomOf_19 : decode cX3_bottomOf 19 = .ok (.ifCond .ne 5, 3) := by decide +kernel
theorem dX3_bottomOf_22 : decode cX3_bottomOf 22 = .ok (.iload_n 2, 1) := by decide +kernel
theorem dX3_bottomOf_23 : decode cX3_bottomOf 23 = .ok (.ireturn, 1) := by decide +kernel
theorem dX3_bottomOf_24 : decode cX3_bottomOf 24 = .ok (.iinc 2 1, 3) := by decide +kernel
theorem dX3_bottomOf_27 : decode cX3_bottomOf 27 = .ok (.goto (-25), 3) := by decide +kernel
theorem dX3_bottomOf_30 : decode cX3_bottomOf 30 = .ok (.bipush 7, 2) := by decide +kernel
theorem dX3_bottomOf_32 : decode cX3_bottomOf 32 = .ok (.ireturn, 1) := by decide +kernel
set_option maxRecDepth 20000 in
theorem ggX3_order_X3_partsOf : GoodIn wsX3_order wsX3_partsOf := goodIn_r _ [5, 6, 7, 8, 9, 10, 11, 12, 17, 18, 19, 20, 21, 22, 23, 24, 25, 26, 27, 28, 29] (by decide +kernel) (by decide +kernel)
set_option maxRecDepth 20000 in
theorem gX3_order_X3_partsOf : GoodIn wsX3_order (wsV RX3 49 RX3 yX3_partsOf wsX3_partsOf) := goodIn_app (goodIn_of _ (by decide +kernel)) ggX3_order_X3_partsOf
set_option maxRecDepth 20000 in
theorem ggX3_order_J6_compare_7cf53 : GoodIn wsX3_order wsJ6_compare_7cf53 := goodIn_r _ [16] (by decide +kernel) (by decide +kernel)
set_option maxRecDepth 20000 in
theorem gX3_order_J6_compare_7cf53 : GoodIn wsX3_order (va_wsS RX3 56 yJ6_compare_7cf53 wsJ6_compare_7cf53) := goodIn_app (goodIn_of _ (by decide +kernel)) ggX3_order_J6_compare_7cf53
theorem dX3_order_0 : decode cX3_order 0 = .ok (.aload_n 0, 1) := by decide +kernel
theorem dX3_order_1 : decode cX3_order 1 = .ok (.iload_n 1, 1) := by decide +kernel
theorem dX3_order_2 : decode cX3_order 2 = .ok (.invokevirtual 49, 3) := by decide +kernel
theorem dX3_order_5 : decode cX3_order 5 = .ok (.iload_n 3, 1) := by decide +kernel
theorem dX3_order_6 : decode cX3_order 6 = .ok (.imul, 1) := by decide +kernel
theorem dX3_order_7 : decode cX3_order 7 = .ok (.iload_n 2, 1) := by decide +kernel
theorem dX3_order_8 : decode cX3_order 8 = .ok (.sipush 420, 3) := by decide +kernel
theorem dX3_order_11 : decode cX3_order 11 = .ok (.imul, 1) := by decide +kernel
theorem dX3_order_12 : decode cX3_order 12 = .ok (.invokestatic 56, 3) := by decide +kernel
theorem dX3_order_15 : decode cX3_order 15 = .ok (.ireturn, 1) := by decide +kernel
set_option maxRecDepth 20000 in
theorem ggX3_partsOf_X1_hasVertex : GoodIn wsX3_partsOf wsX1_hasVertex := goodIn_r _ [6, 7, 12, 13, 14, 15, 16, 17, 18, 19, 20] (by decide +kernel) (by decide +kernel)
set_option maxRecDepth 20000 in
theorem gX3_partsOf_X1_hasVertex_n34 : GoodIn wsX3_partsOf (wsX1_hasVertex) := ggX3_partsOf_X1_hasVertex
theorem dX3_partsOf_0 : decode cX3_partsOf 0 = .ok (.aload_n 0, 1) := by decide +kernel
theorem dX3_partsOf_1 : decode cX3_partsOf 1 = .ok (.getfield 26, 3) := by decide +kernel
theorem dX3_partsOf_4 : decode cX3_partsOf 4 = .ok (.iload_n 1, 1) := by decide +kernel
theorem dX3_partsOf_5 : decode cX3_partsOf 5 = .ok (.invokevirtual 34, 3) := by decide +kernel
theorem dX3_partsOf_8 : decode cX3_partsOf 8 = .ok (.ifCond .eq 12, 3) := by decide +kernel
theorem dX3_partsOf_11 : decode cX3_partsOf 11 = .ok (.aload_n 0, 1) := by decide +kernel
theorem dX3_partsOf_12 : decode cX3_partsOf 12 = .ok (.getfield 22, 3) := by decide +kernel
theorem dX3_partsOf_15 : decode cX3_partsOf 15 = .ok (.iload_n 1, 1) := by decide +kernel
theorem dX3_partsOf_16 : decode cX3_partsOf 16 = .ok (.iaload, 1) := by decide +kernel
theorem dX3_partsOf_17 : decode cX3_partsOf 17 = .ok (.goto 4, 3) := by decide +kernel
theorem dX3_partsOf_20 : decode cX3_partsOf 20 = .ok (.iconst 0, 1) := by decide +kernel
theorem dX3_partsOf_21 : decode cX3_partsOf 21 = .ok (.ireturn, 1) := by decide +kernel
set_option maxRecDepth 20000 in
theorem ggX3_playAt_X1_hasVertex : GoodIn wsX3_playAt wsX1_hasVertex := goodIn_r _ [6, 7, 80, 81, 82, 83, 84, 85, 86, 87, 88] (by decide +kernel) (by decide +kernel)
set_option maxRecDepth 20000 in
theorem gX3_playAt_X1_hasVertex_n34 : GoodIn wsX3_playAt (wsX1_hasVertex) := ggX3_playAt_X1_hasVertex
set_option maxRecDepth 20000 in
theorem ggX3_playAt_X2_has : GoodIn wsX3_playAt wsX2_has := goodIn_r _ [11, 12, 13, 14, 15, 9, 16, 89, 90] (by decide +kernel) (by decide +kernel)
set_option maxRecDepth 20000 in
theorem gX3_playAt_X2_has_n62 : GoodIn wsX3_playAt (wsX2_has) := ggX3_playAt_X2_has
set_option maxRecDepth 20000 in
theorem ggX3_playAt_X2_stepsTo : GoodIn wsX3_playAt wsX2_stepsTo := goodIn_r _ [19, 12, 13, 14, 15, 9, 16, 89, 90] (by decide +kernel) (by decide +kernel)
set_option maxRecDepth 20000 in
theorem gX3_playAt_X2_stepsTo_n65 : GoodIn wsX3_playAt (wsX2_stepsTo) := ggX3_playAt_X2_stepsTo
set_option maxRecDepth 20000 in
theorem ggX3_playAt_X2_sumTo : GoodIn wsX3_playAt wsX2_sumTo := goodIn_r _ [22, 23, 13, 14, 15, 9, 16, 89, 90] (by decide +kernel) (by decide +kernel)
set_option maxRecDepth 20000 in
theorem gX3_playAt_X2_sumTo_n68 : GoodIn wsX3_playAt (wsX2_sumTo) := ggX3_playAt_X2_sumTo
set_option maxRecDepth 20000 in
theorem ggX3_playAt_X3_loopParts : GoodIn wsX3_playAt wsX3_loopParts := goodIn_r _ [27] (by decide +kernel) (by decide +kernel)
set_option maxRecDepth 20000 in
theorem gX3_playAt_X3_loopParts : GoodIn wsX3_playAt (va_wsS RX3 71 yX3_loopParts wsX3_loopParts) := goodIn_app (goodIn_of _ (by decide +kernel)) ggX3_playAt_X3_loopParts
set_option maxRecDepth 20000 in
theorem ggX3_playAt_X2_enter : GoodIn wsX3_playAt wsX2_enter := goodIn_r _ [30, 12, 23, 13, 14, 15, 9, 16, 89, 90] (by decide +kernel) (by decide +kernel)
set_option maxRecDepth 20000 in
theorem gX3_playAt_X2_enter_n74 : GoodIn wsX3_playAt (wsX2_enter) := ggX3_playAt_X2_enter
set_option maxRecDepth 20000 in
theorem ggX3_playAt_X1_ownerOf : GoodIn wsX3_playAt wsX1_ownerOf := goodIn_r _ [33, 34, 35, 3, 5, 4, 6, 7, 80, 81, 82, 83, 84, 85, 86, 87, 88] (by decide +kernel) (by decide +kernel)
set_option maxRecDepth 20000 in
theorem gX3_playAt_X1_ownerOf_n78 : GoodIn wsX3_playAt (wsX1_ownerOf) := ggX3_playAt_X1_ownerOf
set_option maxRecDepth 20000 in
theorem ggX3_playAt_X3_greatestPay : GoodIn wsX3_playAt wsX3_greatestPay := goodIn_r _ [45, 46, 1, 47, 48, 49, 50, 51, 4, 52, 53, 54, 55, 35, 3, 5, 6, 7, 56, 57, 58, 59, 60, 61, 62, 63, 64, 65, 66, 67, 68, 69, 70, 26, 71, 72, 73, 74, 75, 0, 2, 8, 9, 10, 11, 12, 13, 14, 15, 16, 17, 18, 19, 20, 21, 22, 23, 24, 25, 27, 28, 29, 30, 31, 32, 33, 34, 36, 37, 38, 39, 40, 41, 42, 43, 44, 76, 77, 78, 79, 80, 81, 82, 83, 84, 85, 86, 87, 88, 89, 90] (by decide +kernel) (by decide +kernel)
set_option maxRecDepth 20000 in
theorem gX3_playAt_X3_greatestPay : GoodIn wsX3_playAt (wsV RX3 81 RX3 yX3_greatestPay wsX3_greatestPay) := goodIn_app (goodIn_of _ (by decide +kernel)) ggX3_playAt_X3_greatestPay
set_option maxRecDepth 20000 in
theorem ggX3_playAt_X3_leastPay : GoodIn wsX3_playAt wsX3_leastPay := goodIn_r _ [71, 72, 1, 73, 74, 49, 75, 51, 4, 52, 53, 54, 55, 35, 3, 5, 6, 7, 56, 57, 58, 59, 60, 61, 62, 63, 64, 65, 66, 67, 68, 69, 70, 26, 45, 46, 47, 48, 50, 0, 2, 8, 9, 10, 11, 12, 13, 14, 15, 16, 17, 18, 19, 20, 21, 22, 23, 24, 25, 27, 28, 29, 30, 31, 32, 33, 34, 36, 37, 38, 39, 40, 41, 42, 43, 44, 76, 77, 78, 79, 80, 81, 82, 83, 84, 85, 86, 87, 88, 89, 90] (by decide +kernel) (by decide +kernel)
set_option maxRecDepth 20000 in
theorem gX3_playAt_X3_leastPay : GoodIn wsX3_playAt (wsV RX3 84 RX3 yX3_leastPay wsX3_leastPay) := goodIn_app (goodIn_of _ (by decide +kernel)) ggX3_playAt_X3_leastPay
set_option maxRecDepth 20000 in
theorem ggX3_playAt_X2_leave : GoodIn wsX3_playAt wsX2_leave := goodIn_r _ [44, 12, 13, 14, 15, 9, 16, 89, 90] (by decide +kernel) (by decide +kernel)
set_option maxRecDepth 20000 in
theorem gX3_playAt_X2_leave_n87 : GoodIn wsX3_playAt (wsX2_leave) := ggX3_playAt_X2_leave
theorem dX3_playAt_0 : decode cX3_playAt 0 = .ok (.aload_n 0, 1) := by decide +kernel
theorem dX3_playAt_1 : decode cX3_playAt 1 = .ok (.getfield 26, 3) := by decide +kernel
theorem dX3_playAt_4 : decode cX3_playAt 4 = .ok (.iload_n 1, 1) := by decide +kernel
theorem dX3_playAt_5 : decode cX3_playAt 5 = .ok (.invokevirtual 34, 3) := by decide +kernel
theorem dX3_playAt_8 : decode cX3_playAt 8 = .ok (.ifCond .eq 9, 3) := by decide +kernel
theorem dX3_playAt_11 : decode cX3_playAt 11 = .ok (.iload_n 2, 1) := by decide +kernel
theorem dX3_playAt_12 : decode cX3_playAt 12 = .ok (.bipush 7, 2) := by decide +kernel
theorem dX3_playAt_14 : decode cX3_playAt 14 = .ok (.if_icmp .le 5, 3) := by decide +kernel
theorem dX3_playAt_17 : decode cX3_playAt 17 = .ok (.iconst 0, 1) := by decide +kernel
theorem dX3_playAt_18 : decode cX3_playAt 18 = .ok (.ireturn, 1) := by decide +kernel
theorem dX3_playAt_19 : decode cX3_playAt 19 = .ok (.aload_n 0, 1) := by decide +kernel
theorem dX3_playAt_20 : decode cX3_playAt 20 = .ok (.getfield 12, 3) := by decide +kernel
theorem dX3_playAt_23 : decode cX3_playAt 23 = .ok (.iload_n 1, 1) := by decide +kernel
theorem dX3_playAt_24 : decode cX3_playAt 24 = .ok (.invokevirtual 62, 3) := by decide +kernel
theorem dX3_playAt_27 : decode cX3_playAt 27 = .ok (.ifCond .eq 27, 3) := by decide +kernel
theorem dX3_playAt_30 : decode cX3_playAt 30 = .ok (.iload_n 2, 1) := by decide +kernel
theorem dX3_playAt_31 : decode cX3_playAt 31 = .ok (.aload_n 0, 1) := by decide +kernel
theorem dX3_playAt_32 : decode cX3_playAt 32 = .ok (.getfield 12, 3) := by decide +kernel
theorem dX3_playAt_35 : decode cX3_playAt 35 = .ok (.iload_n 1, 1) := by decide +kernel
theorem dX3_playAt_36 : decode cX3_playAt 36 = .ok (.invokevirtual 65, 3) := by decide +kernel
theorem dX3_playAt_39 : decode cX3_playAt 39 = .ok (.isub, 1) := by decide +kernel
theorem dX3_playAt_40 : decode cX3_playAt 40 = .ok (.iload_n 3, 1) := by decide +kernel
theorem dX3_playAt_41 : decode cX3_playAt 41 = .ok (.aload_n 0, 1) := by decide +kernel
theorem dX3_playAt_42 : decode cX3_playAt 42 = .ok (.getfield 12, 3) := by decide +kernel
theorem dX3_playAt_45 : decode cX3_playAt 45 = .ok (.iload_n 1, 1) := by decide +kernel
theorem dX3_playAt_46 : decode cX3_playAt 46 = .ok (.invokevirtual 68, 3) := by decide +kernel
theorem dX3_playAt_49 : decode cX3_playAt 49 = .ok (.isub, 1) := by decide +kernel
theorem dX3_playAt_50 : decode cX3_playAt 50 = .ok (.invokestatic 71, 3) := by decide +kernel
theorem dX3_playAt_53 : decode cX3_playAt 53 = .ok (.ireturn, 1) := by decide +kernel
theorem dX3_playAt_54 : decode cX3_playAt 54 = .ok (.aload_n 0, 1) := by decide +kernel
theorem dX3_playAt_55 : decode cX3_playAt 55 = .ok (.getfield 12, 3) := by decide +kernel
theorem dX3_playAt_58 : decode cX3_playAt 58 = .ok (.iload_n 1, 1) := by decide +kernel
theorem dX3_playAt_59 : decode cX3_playAt 59 = .ok (.iload_n 2, 1) := by decide +kernel
theorem dX3_playAt_60 : decode cX3_playAt 60 = .ok (.iload_n 3, 1) := by decide +kernel
theorem dX3_playAt_61 : decode cX3_playAt 61 = .ok (.invokevirtual 74, 3) := by decide +kernel
theorem dX3_playAt_64 : decode cX3_playAt 64 = .ok (.aload_n 0, 1) := by decide +kernel
theorem dX3_playAt_65 : decode cX3_playAt 65 = .ok (.getfield 26, 3) := by decide +kernel
theorem dX3_playAt_68 : decode cX3_playAt 68 = .ok (.iload_n 1, 1) := by decide +kernel
theorem dX3_playAt_69 : decode cX3_playAt 69 = .ok (.invokevirtual 78, 3) := by decide +kernel
theorem dX3_playAt_72 : decode cX3_playAt 72 = .ok (.ifCond .ne 17, 3) := by decide +kernel
theorem dX3_playAt_75 : decode cX3_playAt 75 = .ok (.aload_n 0, 1) := by decide +kernel
theorem dX3_playAt_76 : decode cX3_playAt 76 = .ok (.iload_n 1, 1) := by decide +kernel
theorem dX3_playAt_77 : decode cX3_playAt 77 = .ok (.iload_n 2, 1) := by decide +kernel
theorem dX3_playAt_78 : decode cX3_playAt 78 = .ok (.iload_n 3, 1) := by decide +kernel
theorem dX3_playAt_79 : decode cX3_playAt 79 = .ok (.iload 4, 2) := by decide +kernel
theorem dX3_playAt_81 : decode cX3_playAt 81 = .ok (.iload 5, 2) := by decide +kernel
theorem dX3_playAt_83 : decode cX3_playAt 83 = .ok (.invokevirtual 81, 3) := by decide +kernel
theorem dX3_playAt_86 : decode cX3_playAt 86 = .ok (.goto 14, 3) := by decide +kernel
theorem dX3_playAt_89 : decode cX3_playAt 89 = .ok (.aload_n 0, 1) := by decide +kernel
theorem dX3_playAt_90 : decode cX3_playAt 90 = .ok (.iload_n 1, 1) := by decide +kernel
theorem dX3_playAt_91 : decode cX3_playAt 91 = .ok (.iload_n 2, 1) := by decide +kernel
theorem dX3_playAt_92 : decode cX3_playAt 92 = .ok (.iload_n 3, 1) := by decide +kernel
theorem dX3_playAt_93 : decode cX3_playAt 93 = .ok (.iload 4, 2) := by decide +kernel
theorem dX3_playAt_95 : decode cX3_playAt 95 = .ok (.iload 5, 2) := by decide +kernel
theorem dX3_playAt_97 : decode cX3_playAt 97 = .ok (.invokevirtual 84, 3) := by decide +kernel
theorem dX3_playAt_100 : decode cX3_playAt 100 = .ok (.istore 6, 2) := by decide +kernel
theorem dX3_playAt_102 : decode cX3_playAt 102 = .ok (.aload_n 0, 1) := by decide +kernel
theorem dX3_playAt_103 : decode cX3_playAt 103 = .ok (.getfield 12, 3) := by decide +kernel
theorem dX3_playAt_106 : decode cX3_playAt 106 = .ok (.iload_n 1, 1) := by decide +kernel
theorem dX3_playAt_107 : decode cX3_playAt 107 = .ok (.invokevirtual 87, 3) := by decide +kernel
theorem dX3_playAt_110 : decode cX3_playAt 110 = .ok (.iload 6, 2) := by decide +kernel
theorem dX3_playAt_112 : decode cX3_playAt 112 = .ok (.ireturn, 1) := by decide +kernel
set_option maxRecDepth 20000 in
theorem ggX3_greatestPay_X1_waysFrom : GoodIn wsX3_greatestPay wsX1_waysFrom := goodIn_r _ [10, 11, 12, 13, 14, 15, 8, 16, 17, 80, 81, 82, 83, 84, 85, 86, 87, 88] (by decide +kernel) (by decide +kernel)
set_option maxRecDepth 20000 in
theorem gX3_greatestPay_X1_waysFrom_n90 : GoodIn wsX3_greatestPay (wsX1_waysFrom) := ggX3_greatestPay_X1_waysFrom
set_option maxRecDepth 20000 in
theorem ggX3_greatestPay_X1_wayFrom : GoodIn wsX3_greatestPay wsX1_wayFrom := goodIn_r _ [20, 12, 11, 21, 13, 14, 15, 8, 16, 17, 80, 81, 82, 83, 84, 85, 86, 87, 88] (by decide +kernel) (by decide +kernel)
set_option maxRecDepth 20000 in
theorem gX3_greatestPay_X1_wayFrom_n93 : GoodIn wsX3_greatestPay (wsX1_wayFrom) := ggX3_greatestPay_X1_wayFrom
set_option maxRecDepth 20000 in
theorem ggX3_greatestPay_X1_targetOf : GoodIn wsX3_greatestPay wsX1_targetOf := goodIn_r _ [24, 25, 80, 81, 82, 83, 84, 85, 86, 87, 88] (by decide +kernel) (by decide +kernel)
set_option maxRecDepth 20000 in
theorem gX3_greatestPay_X1_targetOf_n96 : GoodIn wsX3_greatestPay (wsX1_targetOf) := ggX3_greatestPay_X1_targetOf
set_option maxRecDepth 20000 in
theorem ggX3_greatestPay_X1_weightOf : GoodIn wsX3_greatestPay wsX1_weightOf := goodIn_r _ [28, 29, 80, 81, 82, 83, 84, 85, 86, 87, 88] (by decide +kernel) (by decide +kernel)
set_option maxRecDepth 20000 in
theorem gX3_greatestPay_X1_weightOf_n99 : GoodIn wsX3_greatestPay (wsX1_weightOf) := ggX3_greatestPay_X1_weightOf
set_option maxRecDepth 20000 in
theorem ggX3_greatestPay_X3_playAt : GoodIn wsX3_greatestPay wsX3_playAt := goodIn_r _ [39, 2, 40, 14, 8, 15, 16, 17, 41, 42, 43, 44, 45, 46, 47, 48, 49, 50, 51, 52, 53, 54, 55, 56, 57, 58, 33, 59, 60, 61, 62, 63, 64, 65, 66, 13, 67, 68, 69, 70, 71, 72, 73, 74, 75, 0, 1, 3, 4, 5, 6, 7, 9, 10, 11, 12, 18, 19, 20, 21, 22, 23, 24, 25, 26, 27, 28, 29, 30, 31, 32, 34, 35, 36, 37, 38, 76, 77, 78, 79, 80, 81, 82, 83, 84, 85, 86, 87, 88, 89, 90] (by decide +kernel) (by decide +kernel)
set_option maxRecDepth 20000 in
theorem gX3_greatestPay_X3_playAt : GoodIn wsX3_greatestPay (wsV RX3 45 RX3 yX3_playAt wsX3_playAt) := goodIn_app (goodIn_of _ (by decide +kernel)) ggX3_greatestPay_X3_playAt
theorem dX3_greatestPay_0 : decode cX3_greatestPay 0 = .ok (.ldc 43, 2) := by decide +kernel
theorem dX3_greatestPay_2 : decode cX3_greatestPay 2 = .ok (.istore 6, 2) := by decide +kernel
theorem dX3_greatestPay_4 : decode cX3_greatestPay 4 = .ok (.aload_n 0, 1) := by decide +kernel
theorem dX3_greatestPay_5 : decode cX3_greatestPay 5 = .ok (.getfield 26, 3) := by decide +kernel
theorem dX3_greatestPay_8 : decode cX3_greatestPay 8 = .ok (.iload_n 1, 1) := by decide +kernel
theorem dX3_greatestPay_9 : decode cX3_greatestPay 9 = .ok (.invokevirtual 90, 3) := by decide +kernel
theorem dX3_greatestPay_12 : decode cX3_greatestPay 12 = .ok (.istore 7, 2) := by decide +kernel
theorem dX3_greatestPay_14 : decode cX3_greatestPay 14 = .ok (.iconst 0, 1) := by decide +kernel
theorem dX3_greatestPay_15 : decode cX3_greatestPay 15 = .ok (.istore 8, 2) := by decide +kernel
theorem dX3_greatestPay_17 : decode cX3_greatestPay 17 = .ok (.iload 8, 2) := by decide +kernel
theorem dX3_greatestPay_19 : decode cX3_greatestPay 19 = .ok (.iload 7, 2) := by decide +kernel
theorem dX3_greatestPay_21 : decode cX3_greatestPay 21 = .ok (.if_icmp .ge 75, 3) := by decide +kernel
theorem dX3_greatestPay_24 : decode cX3_greatestPay 24 = .ok (.iload 6, 2) := by decide +kernel
theorem dX3_greatestPay_26 : decode cX3_greatestPay 26 = .ok (.iload 5, 2) := by decide +kernel
theorem dX3_greatestPay_28 : decode cX3_greatestPay 28 = .ok (.if_icmp .ge 68, 3) := by decide +kernel
theorem dX3_greatestPay_31 : decode cX3_greatestPay 31 = .ok (.aload_n 0, 1) := by decide +kernel
theorem dX3_greatestPay_32 : decode cX3_greatestPay 32 = .ok (.getfield 26, 3) := by decide +kernel
theorem dX3_greatestPay_35 : decode cX3_greatestPay 35 = .ok (.iload_n 1, 1) := by decide +kernel
theorem dX3_greatestPay_36 : decode cX3_greatestPay 36 = .ok (.iload 8, 2) := by decide +kernel
theorem dX3_greatestPay_38 : decode cX3_greatestPay 38 = .ok (.invokevirtual 93, 3) := by decide +kernel
theorem dX3_greatestPay_41 : decode cX3_greatestPay 41 = .ok (.istore 9, 2) := by decide +kernel
theorem dX3_greatestPay_43 : decode cX3_greatestPay 43 = .ok (.aload_n 0, 1) := by decide +kernel
theorem dX3_greatestPay_44 : decode cX3_greatestPay 44 = .ok (.getfield 26, 3) := by decide +kernel
theorem dX3_greatestPay_47 : decode cX3_greatestPay 47 = .ok (.iload 9, 2) := by decide +kernel
theorem dX3_greatestPay_49 : decode cX3_greatestPay 49 = .ok (.invokevirtual 96, 3) := by decide +kernel
theorem dX3_greatestPay_52 : decode cX3_greatestPay 52 = .ok (.istore 10, 2) := by decide +kernel
theorem dX3_greatestPay_54 : decode cX3_greatestPay 54 = .ok (.iload 6, 2) := by decide +kernel
theorem dX3_greatestPay_56 : decode cX3_greatestPay 56 = .ok (.aload_n 0, 1) := by decide +kernel
theorem dX3_greatestPay_57 : decode cX3_greatestPay 57 = .ok (.iload 10, 2) := by decide +kernel
theorem dX3_greatestPay_59 : decode cX3_greatestPay 59 = .ok (.iload_n 2, 1) := by decide +kernel
theorem dX3_greatestPay_60 : decode cX3_greatestPay 60 = .ok (.iconst 1, 1) := by decide +kernel
theorem dX3_greatestPay_61 : decode cX3_greatestPay 61 = .ok (.iadd, 1) := by decide +kernel
theorem dX3_greatestPay_62 : decode cX3_greatestPay 62 = .ok (.iload_n 3, 1) := by decide +kernel
theorem dX3_greatestPay_63 : decode cX3_greatestPay 63 = .ok (.aload_n 0, 1) := by decide +kernel
theorem dX3_greatestPay_64 : decode cX3_greatestPay 64 = .ok (.getfield 26, 3) := by decide +kernel
theorem dX3_greatestPay_67 : decode cX3_greatestPay 67 = .ok (.iload 9, 2) := by decide +kernel
theorem dX3_greatestPay_69 : decode cX3_greatestPay 69 = .ok (.invokevirtual 99, 3) := by decide +kernel
theorem dX3_greatestPay_72 : decode cX3_greatestPay 72 = .ok (.iadd, 1) := by decide +kernel
theorem dX3_greatestPay_73 : decode cX3_greatestPay 73 = .ok (.iload 4, 2) := by decide +kernel
theorem dX3_greatestPay_75 : decode cX3_greatestPay 75 = .ok (.iload 6, 2) := by decide +kernel
theorem dX3_greatestPay_77 : decode cX3_greatestPay 77 = .ok (.invokestatic 102, 3) := by decide +kernel
theorem dX3_greatestPay_80 : decode cX3_greatestPay 80 = .ok (.iload 5, 2) := by decide +kernel
theorem dX3_greatestPay_82 : decode cX3_greatestPay 82 = .ok (.invokevirtual 45, 3) := by decide +kernel
theorem dX3_greatestPay_85 : decode cX3_greatestPay 85 = .ok (.invokestatic 102, 3) := by decide +kernel
theorem dX3_greatestPay_88 : decode cX3_greatestPay 88 = .ok (.istore 6, 2) := by decide +kernel
theorem dX3_greatestPay_90 : decode cX3_greatestPay 90 = .ok (.iinc 8 1, 3) := by decide +kernel
theorem dX3_greatestPay_93 : decode cX3_greatestPay 93 = .ok (.goto (-76), 3) := by decide +kernel
theorem dX3_greatestPay_96 : decode cX3_greatestPay 96 = .ok (.iload 6, 2) := by decide +kernel
theorem dX3_greatestPay_98 : decode cX3_greatestPay 98 = .ok (.ireturn, 1) := by decide +kernel
set_option maxRecDepth 20000 in
theorem ggX3_leastPay_X1_waysFrom : GoodIn wsX3_leastPay wsX1_waysFrom := goodIn_r _ [10, 11, 12, 13, 14, 15, 8, 16, 17, 80, 81, 82, 83, 84, 85, 86, 87, 88] (by decide +kernel) (by decide +kernel)
set_option maxRecDepth 20000 in
theorem gX3_leastPay_X1_waysFrom_n90 : GoodIn wsX3_leastPay (wsX1_waysFrom) := ggX3_leastPay_X1_waysFrom
set_option maxRecDepth 20000 in
theorem ggX3_leastPay_X1_wayFrom : GoodIn wsX3_leastPay wsX1_wayFrom := goodIn_r _ [20, 12, 11, 21, 13, 14, 15, 8, 16, 17, 80, 81, 82, 83, 84, 85, 86, 87, 88] (by decide +kernel) (by decide +kernel)
set_option maxRecDepth 20000 in
theorem gX3_leastPay_X1_wayFrom_n93 : GoodIn wsX3_leastPay (wsX1_wayFrom) := ggX3_leastPay_X1_wayFrom
set_option maxRecDepth 20000 in
theorem ggX3_leastPay_X1_targetOf : GoodIn wsX3_leastPay wsX1_targetOf := goodIn_r _ [24, 25, 80, 81, 82, 83, 84, 85, 86, 87, 88] (by decide +kernel) (by decide +kernel)
set_option maxRecDepth 20000 in
theorem gX3_leastPay_X1_targetOf_n96 : GoodIn wsX3_leastPay (wsX1_targetOf) := ggX3_leastPay_X1_targetOf
set_option maxRecDepth 20000 in
theorem ggX3_leastPay_X1_weightOf : GoodIn wsX3_leastPay wsX1_weightOf := goodIn_r _ [28, 29, 80, 81, 82, 83, 84, 85, 86, 87, 88] (by decide +kernel) (by decide +kernel)
set_option maxRecDepth 20000 in
theorem gX3_leastPay_X1_weightOf_n99 : GoodIn wsX3_leastPay (wsX1_weightOf) := ggX3_leastPay_X1_weightOf
set_option maxRecDepth 20000 in
theorem ggX3_leastPay_X3_playAt : GoodIn wsX3_leastPay wsX3_playAt := goodIn_r _ [39, 2, 40, 14, 8, 15, 16, 17, 41, 42, 43, 44, 45, 46, 47, 48, 49, 50, 51, 52, 53, 54, 55, 56, 57, 58, 33, 59, 60, 61, 62, 63, 64, 65, 66, 13, 67, 68, 69, 70, 71, 72, 73, 74, 75, 34, 35, 36, 37, 5, 38, 7, 9, 10, 11, 12, 18, 19, 20, 21, 22, 23, 24, 25, 26, 27, 28, 29, 30, 31, 32, 0, 1, 3, 4, 6, 76, 77, 78, 79, 80, 81, 82, 83, 84, 85, 86, 87, 88, 89, 90] (by decide +kernel) (by decide +kernel)
set_option maxRecDepth 20000 in
theorem gX3_leastPay_X3_playAt : GoodIn wsX3_leastPay (wsV RX3 45 RX3 yX3_playAt wsX3_playAt) := goodIn_app (goodIn_of _ (by decide +kernel)) ggX3_leastPay_X3_playAt
theorem dX3_leastPay_0 : decode cX3_leastPay 0 = .ok (.ldc 44, 2) := by decide +kernel
theorem dX3_leastPay_2 : decode cX3_leastPay 2 = .ok (.istore 6, 2) := by decide +kernel
theorem dX3_leastPay_4 : decode cX3_leastPay 4 = .ok (.aload_n 0, 1) := by decide +kernel
theorem dX3_leastPay_5 : decode cX3_leastPay 5 = .ok (.getfield 26, 3) := by decide +kernel
theorem dX3_leastPay_8 : decode cX3_leastPay 8 = .ok (.iload_n 1, 1) := by decide +kernel
theorem dX3_leastPay_9 : decode cX3_leastPay 9 = .ok (.invokevirtual 90, 3) := by decide +kernel
theorem dX3_leastPay_12 : decode cX3_leastPay 12 = .ok (.istore 7, 2) := by decide +kernel
theorem dX3_leastPay_14 : decode cX3_leastPay 14 = .ok (.iconst 0, 1) := by decide +kernel
theorem dX3_leastPay_15 : decode cX3_leastPay 15 = .ok (.istore 8, 2) := by decide +kernel
theorem dX3_leastPay_17 : decode cX3_leastPay 17 = .ok (.iload 8, 2) := by decide +kernel
theorem dX3_leastPay_19 : decode cX3_leastPay 19 = .ok (.iload 7, 2) := by decide +kernel
theorem dX3_leastPay_21 : decode cX3_leastPay 21 = .ok (.if_icmp .ge 75, 3) := by decide +kernel
theorem dX3_leastPay_24 : decode cX3_leastPay 24 = .ok (.iload 6, 2) := by decide +kernel
theorem dX3_leastPay_26 : decode cX3_leastPay 26 = .ok (.iload 4, 2) := by decide +kernel
theorem dX3_leastPay_28 : decode cX3_leastPay 28 = .ok (.if_icmp .le 68, 3) := by decide +kernel
theorem dX3_leastPay_31 : decode cX3_leastPay 31 = .ok (.aload_n 0, 1) := by decide +kernel
theorem dX3_leastPay_32 : decode cX3_leastPay 32 = .ok (.getfield 26, 3) := by decide +kernel
theorem dX3_leastPay_35 : decode cX3_leastPay 35 = .ok (.iload_n 1, 1) := by decide +kernel
theorem dX3_leastPay_36 : decode cX3_leastPay 36 = .ok (.iload 8, 2) := by decide +kernel
theorem dX3_leastPay_38 : decode cX3_leastPay 38 = .ok (.invokevirtual 93, 3) := by decide +kernel
theorem dX3_leastPay_41 : decode cX3_leastPay 41 = .ok (.istore 9, 2) := by decide +kernel
theorem dX3_leastPay_43 : decode cX3_leastPay 43 = .ok (.aload_n 0, 1) := by decide +kernel
theorem dX3_leastPay_44 : decode cX3_leastPay 44 = .ok (.getfield 26, 3) := by decide +kernel
theorem dX3_leastPay_47 : decode cX3_leastPay 47 = .ok (.iload 9, 2) := by decide +kernel
theorem dX3_leastPay_49 : decode cX3_leastPay 49 = .ok (.invokevirtual 96, 3) := by decide +kernel
theorem dX3_leastPay_52 : decode cX3_leastPay 52 = .ok (.istore 10, 2) := by decide +kernel
theorem dX3_leastPay_54 : decode cX3_leastPay 54 = .ok (.iload 6, 2) := by decide +kernel
theorem dX3_leastPay_56 : decode cX3_leastPay 56 = .ok (.aload_n 0, 1) := by decide +kernel
theorem dX3_leastPay_57 : decode cX3_leastPay 57 = .ok (.iload 10, 2) := by decide +kernel
theorem dX3_leastPay_59 : decode cX3_leastPay 59 = .ok (.iload_n 2, 1) := by decide +kernel
theorem dX3_leastPay_60 : decode cX3_leastPay 60 = .ok (.iconst 1, 1) := by decide +kernel
theorem dX3_leastPay_61 : decode cX3_leastPay 61 = .ok (.iadd, 1) := by decide +kernel
theorem dX3_leastPay_62 : decode cX3_leastPay 62 = .ok (.iload_n 3, 1) := by decide +kernel
theorem dX3_leastPay_63 : decode cX3_leastPay 63 = .ok (.aload_n 0, 1) := by decide +kernel
theorem dX3_leastPay_64 : decode cX3_leastPay 64 = .ok (.getfield 26, 3) := by decide +kernel
theorem dX3_leastPay_67 : decode cX3_leastPay 67 = .ok (.iload 9, 2) := by decide +kernel
theorem dX3_leastPay_69 : decode cX3_leastPay 69 = .ok (.invokevirtual 99, 3) := by decide +kernel
theorem dX3_leastPay_72 : decode cX3_leastPay 72 = .ok (.iadd, 1) := by decide +kernel
theorem dX3_leastPay_73 : decode cX3_leastPay 73 = .ok (.iload 4, 2) := by decide +kernel
theorem dX3_leastPay_75 : decode cX3_leastPay 75 = .ok (.iload 5, 2) := by decide +kernel
theorem dX3_leastPay_77 : decode cX3_leastPay 77 = .ok (.iload 6, 2) := by decide +kernel
theorem dX3_leastPay_79 : decode cX3_leastPay 79 = .ok (.invokestatic 107, 3) := by decide +kernel
theorem dX3_leastPay_82 : decode cX3_leastPay 82 = .ok (.invokevirtual 45, 3) := by decide +kernel
theorem dX3_leastPay_85 : decode cX3_leastPay 85 = .ok (.invokestatic 107, 3) := by decide +kernel
theorem dX3_leastPay_88 : decode cX3_leastPay 88 = .ok (.istore 6, 2) := by decide +kernel
theorem dX3_leastPay_90 : decode cX3_leastPay 90 = .ok (.iinc 8 1, 3) := by decide +kernel
theorem dX3_leastPay_93 : decode cX3_leastPay 93 = .ok (.goto (-76), 3) := by decide +kernel
theorem dX3_leastPay_96 : decode cX3_leastPay 96 = .ok (.iload 6, 2) := by decide +kernel
theorem dX3_leastPay_98 : decode cX3_leastPay 98 = .ok (.ireturn, 1) := by decide +kernel
theorem dX3_loopParts_0 : decode cX3_loopParts 0 = .ok (.iload_n 0, 1) := by decide +kernel
theorem dX3_loopParts_1 : decode cX3_loopParts 1 = .ok (.ifCond .le 13, 3) := by decide +kernel
theorem dX3_loopParts_4 : decode cX3_loopParts 4 = .ok (.sipush 420, 3) := by decide +kernel
theorem dX3_loopParts_7 : decode cX3_loopParts 7 = .ok (.iload_n 0, 1) := by decide +kernel
theorem dX3_loopParts_8 : decode cX3_loopParts 8 = .ok (.idiv, 1) := by decide +kernel
theorem dX3_loopParts_9 : decode cX3_loopParts 9 = .ok (.iload_n 1, 1) := by decide +kernel
theorem dX3_loopParts_10 : decode cX3_loopParts 10 = .ok (.imul, 1) := by decide +kernel
theorem dX3_loopParts_11 : decode cX3_loopParts 11 = .ok (.goto 4, 3) := by decide +kernel
theorem dX3_loopParts_14 : decode cX3_loopParts 14 = .ok (.iconst 0, 1) := by decide +kernel
theorem dX3_loopParts_15 : decode cX3_loopParts 15 = .ok (.ireturn, 1) := by decide +kernel
set_option maxRecDepth 20000 in
theorem ggX4_init_X1_init : GoodIn wsX4_init wsX1_init := goodIn_r _ [23, 24, 2, 3, 20, 25, 26, 27, 28, 29, 30, 31, 32, 33, 34, 56, 57, 58, 59, 60, 61, 62, 63, 64] (by decide +kernel) (by decide +kernel)
set_option maxRecDepth 20000 in
theorem gX4_init_X1_init_n9 : GoodIn wsX4_init (wsX1_init) := ggX4_init_X1_init
set_option maxRecDepth 20000 in
theorem ggX4_init_X3_init : GoodIn wsX4_init wsX3_init := goodIn_r _ [36, 37, 2, 3, 38, 17, 18, 39, 40, 41, 20, 42, 43, 44, 45, 46, 47, 48, 78, 79, 70, 71, 72, 73] (by decide +kernel) (by decide +kernel)
set_option maxRecDepth 20000 in
theorem gX4_init_X3_init_n18 : GoodIn wsX4_init (wsX3_init) := ggX4_init_X3_init
set_option maxRecDepth 20000 in
theorem ggX4_init_X0_init : GoodIn wsX4_init wsX0_init := goodIn_r _ [50, 51, 2, 3, 20, 52, 53, 54, 55, 74, 75, 76, 77] (by decide +kernel) (by decide +kernel)
set_option maxRecDepth 20000 in
theorem gX4_init_X0_init_n27 : GoodIn wsX4_init (wsX0_init) := ggX4_init_X0_init
set_option maxRecDepth 20000 in
theorem ggX4_init_X2_init : GoodIn wsX4_init wsX2_init := goodIn_r _ [45, 46, 2, 3, 20, 47, 48, 78, 79] (by decide +kernel) (by decide +kernel)
set_option maxRecDepth 20000 in
theorem gX4_init_X2_init_n36 : GoodIn wsX4_init (wsX2_init) := ggX4_init_X2_init
theorem dX4_init_0 : decode cX4_init 0 = .ok (.aload_n 0, 1) := by decide +kernel
theorem dX4_init_1 : decode cX4_init 1 = .ok (.invokespecial 1, 3) := by decide +kernel
theorem dX4_init_4 : decode cX4_init 4 = .ok (.aload_n 0, 1) := by decide +kernel
theorem dX4_init_5 : decode cX4_init 5 = .ok (.new 7, 3) := by decide +kernel
theorem dX4_init_8 : decode cX4_init 8 = .ok (.dup, 1) := by decide +kernel
theorem dX4_init_9 : decode cX4_init 9 = .ok (.invokespecial 9, 3) := by decide +kernel
theorem dX4_init_12 : decode cX4_init 12 = .ok (.putfield 10, 3) := by decide +kernel
theorem dX4_init_15 : decode cX4_init 15 = .ok (.aload_n 0, 1) := by decide +kernel
theorem dX4_init_16 : decode cX4_init 16 = .ok (.new 16, 3) := by decide +kernel
theorem dX4_init_19 : decode cX4_init 19 = .ok (.dup, 1) := by decide +kernel
theorem dX4_init_20 : decode cX4_init 20 = .ok (.aload_n 0, 1) := by decide +kernel
theorem dX4_init_21 : decode cX4_init 21 = .ok (.getfield 10, 3) := by decide +kernel
theorem dX4_init_24 : decode cX4_init 24 = .ok (.invokespecial 18, 3) := by decide +kernel
theorem dX4_init_27 : decode cX4_init 27 = .ok (.putfield 21, 3) := by decide +kernel
theorem dX4_init_30 : decode cX4_init 30 = .ok (.aload_n 0, 1) := by decide +kernel
theorem dX4_init_31 : decode cX4_init 31 = .ok (.new 25, 3) := by decide +kernel
theorem dX4_init_34 : decode cX4_init 34 = .ok (.dup, 1) := by decide +kernel
theorem dX4_init_35 : decode cX4_init 35 = .ok (.aload_n 0, 1) := by decide +kernel
theorem dX4_init_36 : decode cX4_init 36 = .ok (.getfield 10, 3) := by decide +kernel
theorem dX4_init_39 : decode cX4_init 39 = .ok (.aload_n 0, 1) := by decide +kernel
theorem dX4_init_40 : decode cX4_init 40 = .ok (.getfield 21, 3) := by decide +kernel
theorem dX4_init_43 : decode cX4_init 43 = .ok (.invokespecial 27, 3) := by decide +kernel
theorem dX4_init_46 : decode cX4_init 46 = .ok (.putfield 30, 3) := by decide +kernel
theorem dX4_init_49 : decode cX4_init 49 = .ok (.aload_n 0, 1) := by decide +kernel
theorem dX4_init_50 : decode cX4_init 50 = .ok (.new 34, 3) := by decide +kernel
theorem dX4_init_53 : decode cX4_init 53 = .ok (.dup, 1) := by decide +kernel
theorem dX4_init_54 : decode cX4_init 54 = .ok (.invokespecial 36, 3) := by decide +kernel
theorem dX4_init_57 : decode cX4_init 57 = .ok (.putfield 37, 3) := by decide +kernel
theorem dX4_init_60 : decode cX4_init 60 = .ok (.aload_n 0, 1) := by decide +kernel
theorem dX4_init_61 : decode cX4_init 61 = .ok (.bipush 7, 2) := by decide +kernel
theorem dX4_init_63 : decode cX4_init 63 = .ok (.newarray .int, 2) := by decide +kernel
theorem dX4_init_65 : decode cX4_init 65 = .ok (.putfield 41, 3) := by decide +kernel
theorem dX4_init_68 : decode cX4_init 68 = .ok (.return_, 1) := by decide +kernel
set_option maxRecDepth 20000 in
theorem ggX4_vertex_X4_checkPlayer : GoodIn wsX4_vertex wsX4_checkPlayer := goodIn_ca (goodIn_r _ [9, 10, 11] (by decide +kernel) (by decide +kernel)) (goodIn_sub (fun _ h => List.mem_cons_of_mem _ (List.mem_append_right _ h)) (by decide +kernel))
set_option maxRecDepth 20000 in
theorem gX4_vertex_X4_checkPlayer : GoodIn wsX4_vertex (wsV RX4 45 RX4 yX4_checkPlayer wsX4_checkPlayer) := goodIn_app (goodIn_of _ (by decide +kernel)) ggX4_vertex_X4_checkPlayer
set_option maxRecDepth 20000 in
theorem ggX4_vertex_X3_forget : GoodIn wsX4_vertex wsX3_forget := goodIn_r _ [15, 16, 38, 39, 40, 41] (by decide +kernel) (by decide +kernel)
set_option maxRecDepth 20000 in
theorem gX4_vertex_X3_forget_n60 : GoodIn wsX4_vertex (wsX3_forget) := ggX4_vertex_X3_forget
set_option maxRecDepth 20000 in
theorem ggX4_vertex_X1_addVertex : GoodIn wsX4_vertex wsX1_addVertex := goodIn_r _ [20, 21, 22, 23, 29, 30, 31, 32, 33, 34, 35, 36, 37] (by decide +kernel) (by decide +kernel)
set_option maxRecDepth 20000 in
theorem gX4_vertex_X1_addVertex_n63 : GoodIn wsX4_vertex (wsX1_addVertex) := ggX4_vertex_X1_addVertex
theorem dX4_vertex_0 : decode cX4_vertex 0 = .ok (.aload_n 0, 1) := by decide +kernel
theorem dX4_vertex_1 : decode cX4_vertex 1 = .ok (.iload_n 1, 1) := by decide +kernel
theorem dX4_vertex_2 : decode cX4_vertex 2 = .ok (.invokevirtual 45, 3) := by decide +kernel
theorem dX4_vertex_5 : decode cX4_vertex 5 = .ok (.aload_n 0, 1) := by decide +kernel
theorem dX4_vertex_6 : decode cX4_vertex 6 = .ok (.getfield 10, 3) := by decide +kernel
theorem dX4_vertex_9 : decode cX4_vertex 9 = .ok (.getfield 49, 3) := by decide +kernel
theorem dX4_vertex_12 : decode cX4_vertex 12 = .ok (.bipush 7, 2) := by decide +kernel
theorem dX4_vertex_14 : decode cX4_vertex 14 = .ok (.if_icmp .lt 13, 3) := by decide +kernel
theorem dX4_vertex_17 : decode cX4_vertex 17 = .ok (.new 53, 3) := by decide +kernel
theorem dX4_vertex_20 : decode cX4_vertex 20 = .ok (.dup, 1) := by decide +kernel
theorem dX4_vertex_21 : decode cX4_vertex 21 = .ok (.ldc 55, 2) := by decide +kernel
theorem dX4_vertex_23 : decode cX4_vertex 23 = .ok (.invokespecial 57, 3) := by decide +kernel
theorem dX4_vertex_26 : decode cX4_vertex 26 = .ok (.athrow, 1) := by decide +kernel
theorem dX4_vertex_27 : decode cX4_vertex 27 = .ok (.aload_n 0, 1) := by decide +kernel
theorem dX4_vertex_28 : decode cX4_vertex 28 = .ok (.getfield 21, 3) := by decide +kernel
theorem dX4_vertex_31 : decode cX4_vertex 31 = .ok (.invokevirtual 60, 3) := by decide +kernel
theorem dX4_vertex_34 : decode cX4_vertex 34 = .ok (.aload_n 0, 1) := by decide +kernel
theorem dX4_vertex_35 : decode cX4_vertex 35 = .ok (.getfield 10, 3) := by decide +kernel
theorem dX4_vertex_38 : decode cX4_vertex 38 = .ok (.iload_n 1, 1) := by decide +kernel
theorem dX4_vertex_39 : decode cX4_vertex 39 = .ok (.invokevirtual 63, 3) := by decide +kernel
theorem dX4_vertex_42 : decode cX4_vertex 42 = .ok (.ireturn, 1) := by decide +kernel
set_option maxRecDepth 20000 in
theorem ggX4_edge_X4_checkVertex : GoodIn wsX4_edge wsX4_checkVertex := goodIn_ca (goodIn_r _ [11, 1, 2, 5, 12, 13, 14, 15, 16, 32, 33, 34, 35, 36, 37, 38, 39, 40, 41, 42, 43, 44, 45] (by decide +kernel) (by decide +kernel)) (goodIn_sub (fun _ h => List.mem_cons_of_mem _ (List.mem_append_left _ (List.mem_append_right _ h))) (by decide +kernel))
set_option maxRecDepth 20000 in
theorem gX4_edge_X4_checkVertex : GoodIn wsX4_edge (wsV RX4 67 RX4 yX4_checkVertex wsX4_checkVertex) := goodIn_app (goodIn_of _ (by decide +kernel)) ggX4_edge_X4_checkVertex
set_option maxRecDepth 20000 in
theorem ggX4_edge_X3_forget : GoodIn wsX4_edge wsX3_forget := goodIn_r _ [20, 21, 46, 47, 48, 49] (by decide +kernel) (by decide +kernel)
set_option maxRecDepth 20000 in
theorem gX4_edge_X3_forget_n60 : GoodIn wsX4_edge (wsX3_forget) := ggX4_edge_X3_forget
set_option maxRecDepth 20000 in
theorem ggX4_edge_X1_addEdge : GoodIn wsX4_edge wsX1_addEdge := goodIn_r _ [24, 25, 26, 27, 28, 29, 30, 31, 12, 14, 13, 15, 16, 37, 38, 39, 40, 41, 42, 43, 44, 45] (by decide +kernel) (by decide +kernel)
set_option maxRecDepth 20000 in
theorem gX4_edge_X1_addEdge_n80 : GoodIn wsX4_edge (wsX1_addEdge) := ggX4_edge_X1_addEdge
theorem dX4_edge_0 : decode cX4_edge 0 = .ok (.aload_n 0, 1) := by decide +kernel
theorem dX4_edge_1 : decode cX4_edge 1 = .ok (.iload_n 1, 1) := by decide +kernel
theorem dX4_edge_2 : decode cX4_edge 2 = .ok (.invokevirtual 67, 3) := by decide +kernel
theorem dX4_edge_5 : decode cX4_edge 5 = .ok (.aload_n 0, 1) := by decide +kernel
theorem dX4_edge_6 : decode cX4_edge 6 = .ok (.iload_n 2, 1) := by decide +kernel
theorem dX4_edge_7 : decode cX4_edge 7 = .ok (.invokevirtual 67, 3) := by decide +kernel
theorem dX4_edge_10 : decode cX4_edge 10 = .ok (.iload_n 3, 1) := by decide +kernel
theorem dX4_edge_11 : decode cX4_edge 11 = .ok (.bipush (-9), 2) := by decide +kernel
theorem dX4_edge_13 : decode cX4_edge 13 = .ok (.if_icmp .lt 9, 3) := by decide +kernel
theorem dX4_edge_16 : decode cX4_edge 16 = .ok (.iload_n 3, 1) := by decide +kernel
theorem dX4_edge_17 : decode cX4_edge 17 = .ok (.bipush 9, 2) := by decide +kernel
theorem dX4_edge_19 : decode cX4_edge 19 = .ok (.if_icmp .le 13, 3) := by decide +kernel
theorem dX4_edge_22 : decode cX4_edge 22 = .ok (.new 70, 3) := by decide +kernel
theorem dX4_edge_25 : decode cX4_edge 25 = .ok (.dup, 1) := by decide +kernel
theorem dX4_edge_26 : decode cX4_edge 26 = .ok (.ldc 72, 2) := by decide +kernel
theorem dX4_edge_28 : decode cX4_edge 28 = .ok (.invokespecial 74, 3) := by decide +kernel
theorem dX4_edge_31 : decode cX4_edge 31 = .ok (.athrow, 1) := by decide +kernel
theorem dX4_edge_32 : decode cX4_edge 32 = .ok (.aload_n 0, 1) := by decide +kernel
theorem dX4_edge_33 : decode cX4_edge 33 = .ok (.getfield 10, 3) := by decide +kernel
theorem dX4_edge_36 : decode cX4_edge 36 = .ok (.getfield 75, 3) := by decide +kernel
theorem dX4_edge_39 : decode cX4_edge 39 = .ok (.bipush 24, 2) := by decide +kernel
theorem dX4_edge_41 : decode cX4_edge 41 = .ok (.if_icmp .lt 13, 3) := by decide +kernel
theorem dX4_edge_44 : decode cX4_edge 44 = .ok (.new 53, 3) := by decide +kernel
theorem dX4_edge_47 : decode cX4_edge 47 = .ok (.dup, 1) := by decide +kernel
theorem dX4_edge_48 : decode cX4_edge 48 = .ok (.ldc 78, 2) := by decide +kernel
theorem dX4_edge_50 : decode cX4_edge 50 = .ok (.invokespecial 57, 3) := by decide +kernel
theorem dX4_edge_53 : decode cX4_edge 53 = .ok (.athrow, 1) := by decide +kernel
theorem dX4_edge_54 : decode cX4_edge 54 = .ok (.aload_n 0, 1) := by decide +kernel
theorem dX4_edge_55 : decode cX4_edge 55 = .ok (.getfield 21, 3) := by decide +kernel
theorem dX4_edge_58 : decode cX4_edge 58 = .ok (.invokevirtual 60, 3) := by decide +kernel
theorem dX4_edge_61 : decode cX4_edge 61 = .ok (.aload_n 0, 1) := by decide +kernel
theorem dX4_edge_62 : decode cX4_edge 62 = .ok (.getfield 10, 3) := by decide +kernel
theorem dX4_edge_65 : decode cX4_edge 65 = .ok (.iload_n 1, 1) := by decide +kernel
theorem dX4_edge_66 : decode cX4_edge 66 = .ok (.iload_n 2, 1) := by decide +kernel
theorem dX4_edge_67 : decode cX4_edge 67 = .ok (.iload_n 3, 1) := by decide +kernel
theorem dX4_edge_68 : decode cX4_edge 68 = .ok (.invokevirtual 80, 3) := by decide +kernel
theorem dX4_edge_71 : decode cX4_edge 71 = .ok (.ireturn, 1) := by decide +kernel
set_option maxRecDepth 20000 in
theorem ggX4_fix_X4_checkVertex : GoodIn wsX4_fix wsX4_checkVertex := goodIn_ca (goodIn_r _ [9, 1, 2, 3, 10, 11, 12, 13, 14, 30, 31, 32, 33, 34, 35, 36, 37, 38, 39, 40, 41, 42, 43] (by decide +kernel) (by decide +kernel)) (goodIn_sub (fun _ h => List.mem_cons_of_mem _ (List.mem_append_right _ h)) (by decide +kernel))
set_option maxRecDepth 20000 in
theorem gX4_fix_X4_checkVertex : GoodIn wsX4_fix (wsV RX4 67 RX4 yX4_checkVertex wsX4_checkVertex) := goodIn_app (goodIn_of _ (by decide +kernel)) ggX4_fix_X4_checkVertex
set_option maxRecDepth 20000 in
theorem ggX4_fix_X1_isFrom : GoodIn wsX4_fix wsX1_isFrom := goodIn_r _ [17, 18, 19, 35, 36, 37, 38, 39, 40, 41, 42, 43] (by decide +kernel) (by decide +kernel)
set_option maxRecDepth 20000 in
theorem gX4_fix_X1_isFrom_n84 : GoodIn wsX4_fix (wsX1_isFrom) := ggX4_fix_X1_isFrom
set_option maxRecDepth 20000 in
theorem ggX4_fix_X3_forget : GoodIn wsX4_fix wsX3_forget := goodIn_r _ [23, 24, 44, 45, 46, 47] (by decide +kernel) (by decide +kernel)
set_option maxRecDepth 20000 in
theorem gX4_fix_X3_forget_n60 : GoodIn wsX4_fix (wsX3_forget) := ggX4_fix_X3_forget
set_option maxRecDepth 20000 in
theorem ggX4_fix_X1_setFixed : GoodIn wsX4_fix wsX1_setFixed := goodIn_r _ [27, 28, 29, 10, 12, 11, 13, 14, 35, 36, 37, 38, 39, 40, 41, 42, 43] (by decide +kernel) (by decide +kernel)
set_option maxRecDepth 20000 in
theorem gX4_fix_X1_setFixed_n90 : GoodIn wsX4_fix (wsX1_setFixed) := ggX4_fix_X1_setFixed
theorem dX4_fix_0 : decode cX4_fix 0 = .ok (.aload_n 0, 1) := by decide +kernel
theorem dX4_fix_1 : decode cX4_fix 1 = .ok (.iload_n 1, 1) := by decide +kernel
theorem dX4_fix_2 : decode cX4_fix 2 = .ok (.invokevirtual 67, 3) := by decide +kernel
theorem dX4_fix_5 : decode cX4_fix 5 = .ok (.iload_n 2, 1) := by decide +kernel
theorem dX4_fix_6 : decode cX4_fix 6 = .ok (.iconst (-1), 1) := by decide +kernel
theorem dX4_fix_7 : decode cX4_fix 7 = .ok (.if_icmp .eq 25, 3) := by decide +kernel
theorem dX4_fix_10 : decode cX4_fix 10 = .ok (.aload_n 0, 1) := by decide +kernel
theorem dX4_fix_11 : decode cX4_fix 11 = .ok (.getfield 10, 3) := by decide +kernel
theorem dX4_fix_14 : decode cX4_fix 14 = .ok (.iload_n 2, 1) := by decide +kernel
theorem dX4_fix_15 : decode cX4_fix 15 = .ok (.iload_n 1, 1) := by decide +kernel
theorem dX4_fix_16 : decode cX4_fix 16 = .ok (.invokevirtual 84, 3) := by decide +kernel
theorem dX4_fix_19 : decode cX4_fix 19 = .ok (.ifCond .ne 13, 3) := by decide +kernel
theorem dX4_fix_22 : decode cX4_fix 22 = .ok (.new 70, 3) := by decide +kernel
theorem dX4_fix_25 : decode cX4_fix 25 = .ok (.dup, 1) := by decide +kernel
theorem dX4_fix_26 : decode cX4_fix 26 = .ok (.ldc 88, 2) := by decide +kernel
theorem dX4_fix_28 : decode cX4_fix 28 = .ok (.invokespecial 74, 3) := by decide +kernel
theorem dX4_fix_31 : decode cX4_fix 31 = .ok (.athrow, 1) := by decide +kernel
theorem dX4_fix_32 : decode cX4_fix 32 = .ok (.aload_n 0, 1) := by decide +kernel
theorem dX4_fix_33 : decode cX4_fix 33 = .ok (.getfield 21, 3) := by decide +kernel
theorem dX4_fix_36 : decode cX4_fix 36 = .ok (.invokevirtual 60, 3) := by decide +kernel
theorem dX4_fix_39 : decode cX4_fix 39 = .ok (.aload_n 0, 1) := by decide +kernel
theorem dX4_fix_40 : decode cX4_fix 40 = .ok (.getfield 10, 3) := by decide +kernel
theorem dX4_fix_43 : decode cX4_fix 43 = .ok (.iload_n 1, 1) := by decide +kernel
theorem dX4_fix_44 : decode cX4_fix 44 = .ok (.iload_n 2, 1) := by decide +kernel
theorem dX4_fix_45 : decode cX4_fix 45 = .ok (.invokevirtual 90, 3) := by decide +kernel
theorem dX4_fix_48 : decode cX4_fix 48 = .ok (.return_, 1) := by decide +kernel
set_option maxRecDepth 20000 in
theorem ggX4_fixed_X4_checkVertex : GoodIn wsX4_fixed wsX4_checkVertex := goodIn_ca (goodIn_r _ [6, 7, 8, 1, 9, 10, 11, 12, 13, 19, 20, 21, 22, 23, 24, 25, 26, 27, 28, 29, 30, 31, 32] (by decide +kernel) (by decide +kernel)) (goodIn_sub (fun _ h => List.mem_cons_of_mem _ (List.mem_append_right _ h)) (by decide +kernel))
set_option maxRecDepth 20000 in
theorem gX4_fixed_X4_checkVertex : GoodIn wsX4_fixed (wsV RX4 67 RX4 yX4_checkVertex wsX4_checkVertex) := goodIn_app (goodIn_of _ (by decide +kernel)) ggX4_fixed_X4_checkVertex
set_option maxRecDepth 20000 in
theorem ggX4_fixed_X1_fixedOf : GoodIn wsX4_fixed wsX1_fixedOf := goodIn_r _ [16, 17, 18, 9, 11, 10, 12, 13, 24, 25, 26, 27, 28, 29, 30, 31, 32] (by decide +kernel) (by decide +kernel)
set_option maxRecDepth 20000 in
theorem gX4_fixed_X1_fixedOf_n94 : GoodIn wsX4_fixed (wsX1_fixedOf) := ggX4_fixed_X1_fixedOf
theorem dX4_fixed_0 : decode cX4_fixed 0 = .ok (.aload_n 0, 1) := by decide +kernel
theorem dX4_fixed_1 : decode cX4_fixed 1 = .ok (.iload_n 1, 1) := by decide +kernel
theorem dX4_fixed_2 : decode cX4_fixed 2 = .ok (.invokevirtual 67, 3) := by decide +kernel
theorem dX4_fixed_5 : decode cX4_fixed 5 = .ok (.aload_n 0, 1) := by decide +kernel
theorem dX4_fixed_6 : decode cX4_fixed 6 = .ok (.getfield 10, 3) := by decide +kernel
theorem dX4_fixed_9 : decode cX4_fixed 9 = .ok (.iload_n 1, 1) := by decide +kernel
theorem dX4_fixed_10 : decode cX4_fixed 10 = .ok (.invokevirtual 94, 3) := by decide +kernel
theorem dX4_fixed_13 : decode cX4_fixed 13 = .ok (.ireturn, 1) := by decide +kernel
set_option maxRecDepth 20000 in
theorem ggX4_credit_X4_checkVertex : GoodIn wsX4_credit wsX4_checkVertex := goodIn_ca (goodIn_r _ [7, 8, 9, 10, 11, 12, 13, 14, 15, 153, 154, 155, 156, 157, 158, 159, 160, 161, 162, 163, 164, 165, 166] (by decide +kernel) (by decide +kernel)) (goodIn_sub (fun _ h => List.mem_cons_of_mem _ (List.mem_append_left _ (List.mem_append_right _ h))) (by decide +kernel))
set_option maxRecDepth 20000 in
theorem gX4_credit_X4_checkVertex : GoodIn wsX4_credit (wsV RX4 67 RX4 yX4_checkVertex wsX4_checkVertex) := goodIn_app (goodIn_of _ (by decide +kernel)) ggX4_credit_X4_checkVertex
set_option maxRecDepth 20000 in
theorem ggX4_credit_X4_checkComplete : GoodIn wsX4_credit wsX4_checkComplete := goodIn_ca (goodIn_r _ [19, 20, 21, 10, 22, 12, 23, 24, 15, 25, 26, 27, 28, 29, 30, 31, 11, 13, 14, 153, 154, 155, 156, 157, 158, 159, 160, 161, 162, 163, 164, 165, 166] (by decide +kernel) (by decide +kernel)) (goodIn_sub (fun _ h => List.mem_cons_of_mem _ (List.mem_append_right _ h)) (by decide +kernel))
set_option maxRecDepth 20000 in
theorem gX4_credit_X4_checkComplete : GoodIn wsX4_credit (wsV RX4 97 RX4 yX4_checkComplete wsX4_checkComplete) := goodIn_app (goodIn_of _ (by decide +kernel)) ggX4_credit_X4_checkComplete
set_option maxRecDepth 20000 in
theorem ggX4_credit_X3_findAll : GoodIn wsX4_credit wsX3_findAll := goodIn_r _ [35, 36, 37, 38, 33, 39, 40, 41, 42, 43, 44, 45, 11, 12, 13, 14, 15, 46, 47, 48, 49, 50, 51, 52, 53, 54, 55, 56, 57, 58, 59, 60, 61, 62, 63, 64, 65, 66, 67, 68, 69, 70, 71, 72, 73, 74, 75, 76, 77, 78, 79, 80, 81, 82, 31, 83, 84, 85, 86, 87, 88, 89, 90, 91, 92, 93, 94, 95, 96, 26, 27, 28, 29, 30, 97, 98, 99, 100, 101, 102, 103, 104, 105, 106, 107, 108, 109, 110, 111, 112, 167, 168, 169, 170, 158, 159, 160, 161, 162, 163, 164, 165, 166, 171, 172] (by decide +kernel) (by decide +kernel)
set_option maxRecDepth 20000 in
theorem gX4_credit_X3_findAll_n100 : GoodIn wsX4_credit (wsX3_findAll) := ggX4_credit_X3_findAll
set_option maxRecDepth 20000 in
theorem ggX4_credit_X0_solve : GoodIn wsX4_credit wsX0_solve := goodIn_r _ [116, 117, 118, 119, 120, 105, 12, 106, 107, 108, 121, 33, 122, 123, 124, 125, 126, 127, 40, 43, 11, 13, 14, 15, 128, 129, 130, 131, 132, 133, 134, 114, 135, 79, 80, 81, 82, 31, 136, 137, 138, 139, 26, 27, 28, 29, 30, 97, 98, 99, 100, 140, 141, 142, 143, 144, 94, 95, 96, 101, 102, 103, 104, 145, 146, 147, 148, 149, 150, 151, 152, 173, 174, 175, 176, 158, 159, 160, 161, 162, 163, 164, 165, 166, 167, 168, 169, 170] (by decide +kernel) (by decide +kernel)
set_option maxRecDepth 20000 in
theorem gX4_credit_X0_solve_n103 : GoodIn wsX4_credit (wsX0_solve) := ggX4_credit_X0_solve
set_option maxRecDepth 20000 in
theorem ggX4_credit_X0_needOf : GoodIn wsX4_credit wsX0_needOf := goodIn_r _ [148, 119, 173, 174, 175, 176] (by decide +kernel) (by decide +kernel)
set_option maxRecDepth 20000 in
theorem gX4_credit_X0_needOf_n107 : GoodIn wsX4_credit (wsX0_needOf) := ggX4_credit_X0_needOf
theorem dX4_credit_0 : decode cX4_credit 0 = .ok (.aload_n 0, 1) := by decide +kernel
theorem dX4_credit_1 : decode cX4_credit 1 = .ok (.iload_n 1, 1) := by decide +kernel
theorem dX4_credit_2 : decode cX4_credit 2 = .ok (.invokevirtual 67, 3) := by decide +kernel
theorem dX4_credit_5 : decode cX4_credit 5 = .ok (.aload_n 0, 1) := by decide +kernel
theorem dX4_credit_6 : decode cX4_credit 6 = .ok (.invokevirtual 97, 3) := by decide +kernel
theorem dX4_credit_9 : decode cX4_credit 9 = .ok (.aload_n 0, 1) := by decide +kernel
theorem dX4_credit_10 : decode cX4_credit 10 = .ok (.getfield 21, 3) := by decide +kernel
theorem dX4_credit_13 : decode cX4_credit 13 = .ok (.invokevirtual 100, 3) := by decide +kernel
theorem dX4_credit_16 : decode cX4_credit 16 = .ok (.aload_n 0, 1) := by decide +kernel
theorem dX4_credit_17 : decode cX4_credit 17 = .ok (.getfield 30, 3) := by decide +kernel
theorem dX4_credit_20 : decode cX4_credit 20 = .ok (.iconst 0, 1) := by decide +kernel
theorem dX4_credit_21 : decode cX4_credit 21 = .ok (.iconst 0, 1) := by decide +kernel
theorem dX4_credit_22 : decode cX4_credit 22 = .ok (.iconst 1, 1) := by decide +kernel
theorem dX4_credit_23 : decode cX4_credit 23 = .ok (.invokevirtual 103, 3) := by decide +kernel
theorem dX4_credit_26 : decode cX4_credit 26 = .ok (.aload_n 0, 1) := by decide +kernel
theorem dX4_credit_27 : decode cX4_credit 27 = .ok (.getfield 30, 3) := by decide +kernel
theorem dX4_credit_30 : decode cX4_credit 30 = .ok (.iload_n 1, 1) := by decide +kernel
theorem dX4_credit_31 : decode cX4_credit 31 = .ok (.invokevirtual 107, 3) := by decide +kernel
theorem dX4_credit_34 : decode cX4_credit 34 = .ok (.ireturn, 1) := by decide +kernel
set_option maxRecDepth 20000 in
theorem ggX4_reaches_X4_checkVertex : GoodIn wsX4_reaches wsX4_checkVertex := goodIn_ca (goodIn_r _ [8, 1, 2, 9, 10, 11, 12, 13, 14, 119, 120, 121, 122, 123, 124, 125, 126, 127, 128, 129, 130, 131, 132] (by decide +kernel) (by decide +kernel)) (goodIn_sub (fun _ h => List.mem_cons_of_mem _ (List.mem_append_left _ (List.mem_append_right _ h))) (by decide +kernel))
set_option maxRecDepth 20000 in
theorem gX4_reaches_X4_checkVertex : GoodIn wsX4_reaches (wsV RX4 67 RX4 yX4_checkVertex wsX4_checkVertex) := goodIn_app (goodIn_of _ (by decide +kernel)) ggX4_reaches_X4_checkVertex
set_option maxRecDepth 20000 in
theorem ggX4_reaches_X4_checkComplete : GoodIn wsX4_reaches wsX4_checkComplete := goodIn_ca (goodIn_r _ [18, 19, 20, 9, 21, 11, 22, 23, 14, 24, 25, 26, 27, 28, 29, 30, 10, 12, 13, 119, 120, 121, 122, 123, 124, 125, 126, 127, 128, 129, 130, 131, 132] (by decide +kernel) (by decide +kernel)) (goodIn_sub (fun _ h => List.mem_cons_of_mem _ (List.mem_append_right _ h)) (by decide +kernel))
set_option maxRecDepth 20000 in
theorem gX4_reaches_X4_checkComplete : GoodIn wsX4_reaches (wsV RX4 97 RX4 yX4_checkComplete wsX4_checkComplete) := goodIn_app (goodIn_of _ (by decide +kernel)) ggX4_reaches_X4_checkComplete
set_option maxRecDepth 20000 in
theorem ggX4_reaches_X3_find : GoodIn wsX4_reaches wsX3_find := goodIn_r _ [34, 35, 36, 37, 38, 39, 40, 10, 11, 12, 13, 14, 41, 42, 43, 44, 45, 46, 47, 48, 49, 50, 51, 52, 32, 53, 54, 55, 56, 57, 58, 59, 60, 61, 62, 63, 64, 65, 66, 67, 68, 69, 70, 71, 72, 73, 74, 75, 76, 77, 30, 78, 79, 80, 81, 82, 83, 84, 85, 86, 87, 88, 89, 90, 91, 25, 26, 27, 28, 29, 92, 93, 94, 95, 96, 97, 98, 99, 100, 101, 102, 103, 104, 105, 106, 107, 133, 134, 135, 136, 124, 125, 126, 127, 128, 129, 130, 131, 132, 137, 138] (by decide +kernel) (by decide +kernel)
set_option maxRecDepth 20000 in
theorem gX4_reaches_X3_find_n114 : GoodIn wsX4_reaches (wsX3_find) := ggX4_reaches_X3_find
set_option maxRecDepth 20000 in
theorem ggX4_reaches_X3_order : GoodIn wsX4_reaches wsX3_order := goodIn_r _ [110, 111, 112, 113, 32, 114, 35, 38, 10, 11, 12, 13, 14, 115, 116, 117, 118, 133, 134, 135, 136, 124, 125, 126, 127, 128, 129, 130, 131, 132] (by decide +kernel) (by decide +kernel)
set_option maxRecDepth 20000 in
theorem gX4_reaches_X3_order_n117 : GoodIn wsX4_reaches (wsX3_order) := ggX4_reaches_X3_order
theorem dX4_reaches_0 : decode cX4_reaches 0 = .ok (.aload_n 0, 1) := by decide +kernel
theorem dX4_reaches_1 : decode cX4_reaches 1 = .ok (.iload_n 1, 1) := by decide +kernel
theorem dX4_reaches_2 : decode cX4_reaches 2 = .ok (.invokevirtual 67, 3) := by decide +kernel
theorem dX4_reaches_5 : decode cX4_reaches 5 = .ok (.iload_n 2, 1) := by decide +kernel
theorem dX4_reaches_6 : decode cX4_reaches 6 = .ok (.bipush (-99), 2) := by decide +kernel
theorem dX4_reaches_8 : decode cX4_reaches 8 = .ok (.if_icmp .lt 9, 3) := by decide +kernel
theorem dX4_reaches_11 : decode cX4_reaches 11 = .ok (.iload_n 2, 1) := by decide +kernel
theorem dX4_reaches_12 : decode cX4_reaches 12 = .ok (.bipush 99, 2) := by decide +kernel
theorem dX4_reaches_14 : decode cX4_reaches 14 = .ok (.if_icmp .le 13, 3) := by decide +kernel
theorem dX4_reaches_17 : decode cX4_reaches 17 = .ok (.new 70, 3) := by decide +kernel
theorem dX4_reaches_20 : decode cX4_reaches 20 = .ok (.dup, 1) := by decide +kernel
theorem dX4_reaches_21 : decode cX4_reaches 21 = .ok (.ldc 110, 2) := by decide +kernel
theorem dX4_reaches_23 : decode cX4_reaches 23 = .ok (.invokespecial 74, 3) := by decide +kernel
theorem dX4_reaches_26 : decode cX4_reaches 26 = .ok (.athrow, 1) := by decide +kernel
theorem dX4_reaches_27 : decode cX4_reaches 27 = .ok (.iload_n 3, 1) := by decide +kernel
theorem dX4_reaches_28 : decode cX4_reaches 28 = .ok (.iconst 1, 1) := by decide +kernel
theorem dX4_reaches_29 : decode cX4_reaches 29 = .ok (.if_icmp .lt 9, 3) := by decide +kernel
theorem dX4_reaches_32 : decode cX4_reaches 32 = .ok (.iload_n 3, 1) := by decide +kernel
theorem dX4_reaches_33 : decode cX4_reaches 33 = .ok (.bipush 9, 2) := by decide +kernel
theorem dX4_reaches_35 : decode cX4_reaches 35 = .ok (.if_icmp .le 13, 3) := by decide +kernel
theorem dX4_reaches_38 : decode cX4_reaches 38 = .ok (.new 70, 3) := by decide +kernel
theorem dX4_reaches_41 : decode cX4_reaches 41 = .ok (.dup, 1) := by decide +kernel
theorem dX4_reaches_42 : decode cX4_reaches 42 = .ok (.ldc 112, 2) := by decide +kernel
theorem dX4_reaches_44 : decode cX4_reaches 44 = .ok (.invokespecial 74, 3) := by decide +kernel
theorem dX4_reaches_47 : decode cX4_reaches 47 = .ok (.athrow, 1) := by decide +kernel
theorem dX4_reaches_48 : decode cX4_reaches 48 = .ok (.aload_n 0, 1) := by decide +kernel
theorem dX4_reaches_49 : decode cX4_reaches 49 = .ok (.invokevirtual 97, 3) := by decide +kernel
theorem dX4_reaches_52 : decode cX4_reaches 52 = .ok (.aload_n 0, 1) := by decide +kernel
theorem dX4_reaches_53 : decode cX4_reaches 53 = .ok (.getfield 21, 3) := by decide +kernel
theorem dX4_reaches_56 : decode cX4_reaches 56 = .ok (.iload_n 1, 1) := by decide +kernel
theorem dX4_reaches_57 : decode cX4_reaches 57 = .ok (.invokevirtual 114, 3) := by decide +kernel
theorem dX4_reaches_60 : decode cX4_reaches 60 = .ok (.aload_n 0, 1) := by decide +kernel
theorem dX4_reaches_61 : decode cX4_reaches 61 = .ok (.getfield 21, 3) := by decide +kernel
theorem dX4_reaches_64 : decode cX4_reaches 64 = .ok (.iload_n 1, 1) := by decide +kernel
theorem dX4_reaches_65 : decode cX4_reaches 65 = .ok (.iload_n 2, 1) := by decide +kernel
theorem dX4_reaches_66 : decode cX4_reaches 66 = .ok (.iload_n 3, 1) := by decide +kernel
theorem dX4_reaches_67 : decode cX4_reaches 67 = .ok (.invokevirtual 117, 3) := by decide +kernel
theorem dX4_reaches_70 : decode cX4_reaches 70 = .ok (.ifCond .lt 7, 3) := by decide +kernel
theorem dX4_reaches_73 : decode cX4_reaches 73 = .ok (.iconst 1, 1) := by decide +kernel
theorem dX4_reaches_74 : decode cX4_reaches 74 = .ok (.goto 4, 3) := by decide +kernel
theorem dX4_reaches_77 : decode cX4_reaches 77 = .ok (.iconst 0, 1) := by decide +kernel
theorem dX4_reaches_78 : decode cX4_reaches 78 = .ok (.ireturn, 1) := by decide +kernel
set_option maxRecDepth 20000 in
theorem ggX4_value_X4_checkVertex : GoodIn wsX4_value wsX4_checkVertex := goodIn_ca (goodIn_r _ [6, 7, 8, 9, 10, 11, 12, 13, 14, 119, 120, 121, 122, 123, 124, 125, 126, 127, 128, 129, 130, 131, 132] (by decide +kernel) (by decide +kernel)) (goodIn_sub (fun _ h => List.mem_cons_of_mem _ (List.mem_append_left _ (List.mem_append_right _ h))) (by decide +kernel))
set_option maxRecDepth 20000 in
theorem gX4_value_X4_checkVertex : GoodIn wsX4_value (wsV RX4 67 RX4 yX4_checkVertex wsX4_checkVertex) := goodIn_app (goodIn_of _ (by decide +kernel)) ggX4_value_X4_checkVertex
set_option maxRecDepth 20000 in
theorem ggX4_value_X4_checkComplete : GoodIn wsX4_value wsX4_checkComplete := goodIn_ca (goodIn_r _ [18, 19, 20, 9, 21, 11, 22, 23, 14, 24, 25, 26, 27, 28, 29, 30, 10, 12, 13, 119, 120, 121, 122, 123, 124, 125, 126, 127, 128, 129, 130, 131, 132] (by decide +kernel) (by decide +kernel)) (goodIn_sub (fun _ h => List.mem_cons_of_mem _ (List.mem_append_right _ h)) (by decide +kernel))
set_option maxRecDepth 20000 in
theorem gX4_value_X4_checkComplete : GoodIn wsX4_value (wsV RX4 97 RX4 yX4_checkComplete wsX4_checkComplete) := goodIn_app (goodIn_of _ (by decide +kernel)) ggX4_value_X4_checkComplete
set_option maxRecDepth 20000 in
theorem ggX4_value_X3_find : GoodIn wsX4_value wsX3_find := goodIn_r _ [34, 35, 36, 37, 38, 39, 40, 10, 11, 12, 13, 14, 41, 42, 43, 44, 45, 46, 47, 48, 49, 50, 51, 52, 32, 53, 54, 55, 56, 57, 58, 59, 60, 61, 62, 63, 64, 65, 66, 67, 68, 69, 70, 71, 72, 73, 74, 75, 76, 77, 30, 78, 79, 80, 81, 82, 83, 84, 85, 86, 87, 88, 89, 90, 91, 25, 26, 27, 28, 29, 92, 93, 94, 95, 96, 97, 98, 99, 100, 101, 102, 103, 104, 105, 106, 107, 133, 134, 135, 136, 124, 125, 126, 127, 128, 129, 130, 131, 132, 137, 138] (by decide +kernel) (by decide +kernel)
set_option maxRecDepth 20000 in
theorem gX4_value_X3_find_n114 : GoodIn wsX4_value (wsX3_find) := ggX4_value_X3_find
set_option maxRecDepth 20000 in
theorem ggX4_value_X3_bottomOf : GoodIn wsX4_value wsX3_bottomOf := goodIn_r _ [110, 111, 112, 113, 32, 114, 35, 38, 10, 11, 12, 13, 14, 133, 134, 135, 136, 124, 125, 126, 127, 128, 129, 130, 131, 132] (by decide +kernel) (by decide +kernel)
set_option maxRecDepth 20000 in
theorem gX4_value_X3_bottomOf_n120 : GoodIn wsX4_value (wsX3_bottomOf) := ggX4_value_X3_bottomOf
set_option maxRecDepth 20000 in
theorem ggX4_value_X3_topOf : GoodIn wsX4_value wsX3_topOf := goodIn_r _ [117, 111, 112, 113, 32, 114, 35, 38, 10, 11, 12, 13, 14, 118, 108, 109, 110, 133, 134, 135, 136, 124, 125, 126, 127, 128, 129, 130, 131, 132] (by decide +kernel) (by decide +kernel)
set_option maxRecDepth 20000 in
theorem gX4_value_X3_topOf_n123 : GoodIn wsX4_value (wsX3_topOf) := ggX4_value_X3_topOf
theorem dX4_value_0 : decode cX4_value 0 = .ok (.aload_n 0, 1) := by decide +kernel
theorem dX4_value_1 : decode cX4_value 1 = .ok (.iload_n 1, 1) := by decide +kernel
theorem dX4_value_2 : decode cX4_value 2 = .ok (.invokevirtual 67, 3) := by decide +kernel
theorem dX4_value_5 : decode cX4_value 5 = .ok (.aload_n 0, 1) := by decide +kernel
theorem dX4_value_6 : decode cX4_value 6 = .ok (.invokevirtual 97, 3) := by decide +kernel
theorem dX4_value_9 : decode cX4_value 9 = .ok (.aload_n 0, 1) := by decide +kernel
theorem dX4_value_10 : decode cX4_value 10 = .ok (.getfield 21, 3) := by decide +kernel
theorem dX4_value_13 : decode cX4_value 13 = .ok (.iload_n 1, 1) := by decide +kernel
theorem dX4_value_14 : decode cX4_value 14 = .ok (.invokevirtual 114, 3) := by decide +kernel
theorem dX4_value_17 : decode cX4_value 17 = .ok (.iload_n 2, 1) := by decide +kernel
theorem dX4_value_18 : decode cX4_value 18 = .ok (.ifCond .eq 14, 3) := by decide +kernel
theorem dX4_value_21 : decode cX4_value 21 = .ok (.aload_n 0, 1) := by decide +kernel
theorem dX4_value_22 : decode cX4_value 22 = .ok (.getfield 21, 3) := by decide +kernel
theorem dX4_value_25 : decode cX4_value 25 = .ok (.iload_n 1, 1) := by decide +kernel
theorem dX4_value_26 : decode cX4_value 26 = .ok (.invokevirtual 120, 3) := by decide +kernel
theorem dX4_value_29 : decode cX4_value 29 = .ok (.goto 11, 3) := by decide +kernel
theorem dX4_value_32 : decode cX4_value 32 = .ok (.aload_n 0, 1) := by decide +kernel
theorem dX4_value_33 : decode cX4_value 33 = .ok (.getfield 21, 3) := by decide +kernel
theorem dX4_value_36 : decode cX4_value 36 = .ok (.iload_n 1, 1) := by decide +kernel
theorem dX4_value_37 : decode cX4_value 37 = .ok (.invokevirtual 123, 3) := by decide +kernel
theorem dX4_value_40 : decode cX4_value 40 = .ok (.ireturn, 1) := by decide +kernel
set_option maxRecDepth 20000 in
theorem ggX4_best_X4_checkVertex : GoodIn wsX4_best wsX4_checkVertex := goodIn_ca (goodIn_r _ [6, 7, 8, 9, 10, 11, 12, 13, 14, 167, 168, 169, 170, 171, 172, 173, 174, 175, 176, 177, 178, 179, 180] (by decide +kernel) (by decide +kernel)) (goodIn_sub (fun _ h => List.mem_cons_of_mem _ (List.mem_append_left _ (List.mem_append_right _ h))) (by decide +kernel))
set_option maxRecDepth 20000 in
theorem gX4_best_X4_checkVertex : GoodIn wsX4_best (wsV RX4 67 RX4 yX4_checkVertex wsX4_checkVertex) := goodIn_app (goodIn_of _ (by decide +kernel)) ggX4_best_X4_checkVertex
set_option maxRecDepth 20000 in
theorem ggX4_best_X4_checkComplete : GoodIn wsX4_best wsX4_checkComplete := goodIn_ca (goodIn_r _ [18, 19, 20, 9, 21, 11, 22, 23, 14, 24, 25, 26, 27, 28, 29, 30, 10, 12, 13, 167, 168, 169, 170, 171, 172, 173, 174, 175, 176, 177, 178, 179, 180] (by decide +kernel) (by decide +kernel)) (goodIn_sub (fun _ h => List.mem_cons_of_mem _ (List.mem_append_right _ h)) (by decide +kernel))
set_option maxRecDepth 20000 in
theorem gX4_best_X4_checkComplete : GoodIn wsX4_best (wsV RX4 97 RX4 yX4_checkComplete wsX4_checkComplete) := goodIn_app (goodIn_of _ (by decide +kernel)) ggX4_best_X4_checkComplete
set_option maxRecDepth 20000 in
theorem ggX4_best_X3_findAll : GoodIn wsX4_best wsX3_findAll := goodIn_r _ [34, 35, 36, 37, 32, 38, 39, 40, 41, 42, 43, 44, 10, 11, 12, 13, 14, 45, 46, 47, 48, 49, 50, 51, 52, 53, 54, 55, 56, 57, 58, 59, 60, 61, 62, 63, 64, 65, 66, 67, 68, 69, 70, 71, 72, 73, 74, 75, 76, 77, 78, 79, 80, 81, 30, 82, 83, 84, 85, 86, 87, 88, 89, 90, 91, 92, 93, 94, 95, 25, 26, 27, 28, 29, 96, 97, 98, 99, 100, 101, 102, 103, 104, 105, 106, 107, 108, 109, 110, 111, 181, 182, 183, 184, 172, 173, 174, 175, 176, 177, 178, 179, 180, 185, 186] (by decide +kernel) (by decide +kernel)
set_option maxRecDepth 20000 in
theorem gX4_best_X3_findAll_n100 : GoodIn wsX4_best (wsX3_findAll) := ggX4_best_X3_findAll
set_option maxRecDepth 20000 in
theorem ggX4_best_X4_bestEdge : GoodIn wsX4_best wsX4_bestEdge := goodIn_r _ [115, 116, 9, 1, 78, 11, 79, 80, 81, 30, 10, 12, 13, 14, 117, 32, 118, 119, 120, 121, 122, 123, 39, 42, 124, 125, 126, 127, 128, 129, 130, 131, 132, 133, 134, 135, 104, 105, 106, 107, 136, 137, 138, 139, 140, 141, 142, 143, 144, 145, 146, 147, 148, 149, 150, 25, 26, 27, 28, 29, 96, 97, 98, 99, 151, 152, 153, 154, 155, 93, 94, 95, 100, 101, 102, 103, 156, 157, 158, 159, 160, 161, 162, 163, 164, 165, 166, 167, 168, 169, 170, 171, 172, 173, 174, 175, 176, 177, 178, 179, 180, 181, 182, 183, 184, 187, 188, 189, 190] (by decide +kernel) (by decide +kernel)
set_option maxRecDepth 20000 in
theorem gX4_best_X4_bestEdge : GoodIn wsX4_best (wsV RX4 126 RX4 yX4_bestEdge wsX4_bestEdge) := goodIn_app (goodIn_of _ (by decide +kernel)) ggX4_best_X4_bestEdge
theorem dX4_best_0 : decode cX4_best 0 = .ok (.aload_n 0, 1) := by decide +kernel
theorem dX4_best_1 : decode cX4_best 1 = .ok (.iload_n 1, 1) := by decide +kernel
theorem dX4_best_2 : decode cX4_best 2 = .ok (.invokevirtual 67, 3) := by decide +kernel
theorem dX4_best_5 : decode cX4_best 5 = .ok (.aload_n 0, 1) := by decide +kernel
theorem dX4_best_6 : decode cX4_best 6 = .ok (.invokevirtual 97, 3) := by decide +kernel
theorem dX4_best_9 : decode cX4_best 9 = .ok (.aload_n 0, 1) := by decide +kernel
theorem dX4_best_10 : decode cX4_best 10 = .ok (.getfield 21, 3) := by decide +kernel
theorem dX4_best_13 : decode cX4_best 13 = .ok (.invokevirtual 100, 3) := by decide +kernel
theorem dX4_best_16 : decode cX4_best 16 = .ok (.aload_n 0, 1) := by decide +kernel
theorem dX4_best_17 : decode cX4_best 17 = .ok (.iload_n 1, 1) := by decide +kernel
theorem dX4_best_18 : decode cX4_best 18 = .ok (.invokevirtual 126, 3) := by decide +kernel
theorem dX4_best_21 : decode cX4_best 21 = .ok (.ireturn, 1) := by decide +kernel
set_option maxRecDepth 20000 in
theorem ggX4_settle_X4_checkPlayer : GoodIn wsX4_settle wsX4_checkPlayer := goodIn_ca (goodIn_r _ [6, 7, 8] (by decide +kernel) (by decide +kernel)) (goodIn_sub (fun _ h => List.mem_cons_of_mem _ (List.mem_append_left _ (List.mem_append_right _ h))) (by decide +kernel))
set_option maxRecDepth 20000 in
theorem gX4_settle_X4_checkPlayer : GoodIn wsX4_settle (wsV RX4 45 RX4 yX4_checkPlayer wsX4_checkPlayer) := goodIn_app (goodIn_of _ (by decide +kernel)) ggX4_settle_X4_checkPlayer
set_option maxRecDepth 20000 in
theorem ggX4_settle_X4_checkComplete : GoodIn wsX4_settle wsX4_checkComplete := goodIn_ca (goodIn_r _ [12, 13, 14, 15, 16, 17, 18, 19, 20, 21, 22, 23, 24, 25, 26, 27, 28, 29, 30, 185, 186, 187, 188, 189, 190, 191, 192, 193, 194, 195, 196, 197, 198] (by decide +kernel) (by decide +kernel)) (goodIn_sub (fun _ h => List.mem_cons_of_mem _ (List.mem_append_right _ h)) (by decide +kernel))
set_option maxRecDepth 20000 in
theorem gX4_settle_X4_checkComplete : GoodIn wsX4_settle (wsV RX4 97 RX4 yX4_checkComplete wsX4_checkComplete) := goodIn_app (goodIn_of _ (by decide +kernel)) ggX4_settle_X4_checkComplete
set_option maxRecDepth 20000 in
theorem ggX4_settle_X3_findAll : GoodIn wsX4_settle wsX3_findAll := goodIn_r _ [34, 35, 36, 37, 32, 38, 39, 40, 41, 42, 43, 44, 28, 17, 29, 30, 20, 45, 46, 47, 48, 49, 50, 51, 52, 53, 54, 55, 56, 57, 58, 59, 60, 61, 62, 63, 64, 65, 66, 67, 68, 69, 70, 71, 72, 73, 74, 75, 76, 77, 78, 79, 80, 81, 27, 82, 83, 84, 85, 86, 87, 88, 89, 90, 91, 92, 93, 94, 95, 22, 23, 24, 25, 26, 96, 97, 98, 99, 100, 101, 102, 103, 104, 105, 106, 107, 108, 109, 110, 111, 199, 200, 201, 202, 190, 191, 192, 193, 194, 195, 196, 197, 198, 203, 204] (by decide +kernel) (by decide +kernel)
set_option maxRecDepth 20000 in
theorem gX4_settle_X3_findAll_n100 : GoodIn wsX4_settle (wsX3_findAll) := ggX4_settle_X3_findAll
set_option maxRecDepth 20000 in
theorem ggX4_settle_X4_chooseFor : GoodIn wsX4_settle wsX4_chooseFor := goodIn_r _ [115, 15, 116, 28, 17, 29, 30, 20, 78, 79, 80, 81, 27, 117, 118, 119, 25, 120, 121, 122, 5, 123, 124, 1, 125, 32, 126, 127, 128, 129, 130, 131, 39, 42, 132, 133, 134, 135, 136, 137, 138, 139, 140, 141, 142, 143, 104, 105, 106, 107, 144, 145, 146, 147, 148, 149, 150, 151, 152, 153, 154, 155, 156, 157, 158, 22, 23, 24, 26, 96, 97, 98, 99, 159, 160, 161, 162, 163, 93, 94, 95, 100, 101, 102, 103, 164, 165, 166, 167, 168, 169, 170, 171, 172, 173, 174, 185, 186, 187, 188, 189, 190, 191, 192, 193, 194, 195, 196, 197, 198, 199, 200, 201, 202, 205, 206, 207, 208] (by decide +kernel) (by decide +kernel)
set_option maxRecDepth 20000 in
theorem gX4_settle_X4_chooseFor : GoodIn wsX4_settle (wsV RX4 129 RX4 yX4_chooseFor wsX4_chooseFor) := goodIn_app (goodIn_of _ (by decide +kernel)) ggX4_settle_X4_chooseFor
set_option maxRecDepth 20000 in
theorem ggX4_settle_X3_forget : GoodIn wsX4_settle wsX3_forget := goodIn_r _ [177, 40, 199, 200, 201, 202] (by decide +kernel) (by decide +kernel)
set_option maxRecDepth 20000 in
theorem gX4_settle_X3_forget_n60 : GoodIn wsX4_settle (wsX3_forget) := ggX4_settle_X3_forget
set_option maxRecDepth 20000 in
theorem ggX4_settle_X4_fixChosen : GoodIn wsX4_settle wsX4_fixChosen := goodIn_r _ [181, 116, 15, 182, 17, 183, 184, 25, 27, 28, 29, 30, 20, 185, 186, 187, 188, 189, 190, 191, 192, 193, 194, 195, 196, 197, 198] (by decide +kernel) (by decide +kernel)
set_option maxRecDepth 20000 in
theorem gX4_settle_X4_fixChosen : GoodIn wsX4_settle (wsV RX4 132 RX4 yX4_fixChosen wsX4_fixChosen) := goodIn_app (goodIn_of _ (by decide +kernel)) ggX4_settle_X4_fixChosen
theorem dX4_settle_0 : decode cX4_settle 0 = .ok (.aload_n 0, 1) := by decide +kernel
theorem dX4_settle_1 : decode cX4_settle 1 = .ok (.iload_n 1, 1) := by decide +kernel
theorem dX4_settle_2 : decode cX4_settle 2 = .ok (.invokevirtual 45, 3) := by decide +kernel
theorem dX4_settle_5 : decode cX4_settle 5 = .ok (.aload_n 0, 1) := by decide +kernel
theorem dX4_settle_6 : decode cX4_settle 6 = .ok (.invokevirtual 97, 3) := by decide +kernel
theorem dX4_settle_9 : decode cX4_settle 9 = .ok (.aload_n 0, 1) := by decide +kernel
theorem dX4_settle_10 : decode cX4_settle 10 = .ok (.getfield 21, 3) := by decide +kernel
theorem dX4_settle_13 : decode cX4_settle 13 = .ok (.invokevirtual 100, 3) := by decide +kernel
theorem dX4_settle_16 : decode cX4_settle 16 = .ok (.aload_n 0, 1) := by decide +kernel
theorem dX4_settle_17 : decode cX4_settle 17 = .ok (.iload_n 1, 1) := by decide +kernel
theorem dX4_settle_18 : decode cX4_settle 18 = .ok (.invokevirtual 129, 3) := by decide +kernel
theorem dX4_settle_21 : decode cX4_settle 21 = .ok (.aload_n 0, 1) := by decide +kernel
theorem dX4_settle_22 : decode cX4_settle 22 = .ok (.getfield 21, 3) := by decide +kernel
theorem dX4_settle_25 : decode cX4_settle 25 = .ok (.invokevirtual 60, 3) := by decide +kernel
theorem dX4_settle_28 : decode cX4_settle 28 = .ok (.aload_n 0, 1) := by decide +kernel
theorem dX4_settle_29 : decode cX4_settle 29 = .ok (.invokevirtual 132, 3) := by decide +kernel
theorem dX4_settle_32 : decode cX4_settle 32 = .ok (.ireturn, 1) := by decide +kernel
set_option maxRecDepth 20000 in
theorem ggX4_walk_X4_checkVertex : GoodIn wsX4_walk wsX4_checkVertex := goodIn_ca (goodIn_r _ [8, 1, 2, 9, 10, 11, 12, 13, 14, 172, 173, 174, 175, 176, 177, 178, 179, 180, 181, 182, 183, 184, 185] (by decide +kernel) (by decide +kernel)) (goodIn_sub (fun _ h => List.mem_cons_of_mem _ (List.mem_append_left _ (List.mem_append_right _ h))) (by decide +kernel))
set_option maxRecDepth 20000 in
theorem gX4_walk_X4_checkVertex : GoodIn wsX4_walk (wsV RX4 67 RX4 yX4_checkVertex wsX4_checkVertex) := goodIn_app (goodIn_of _ (by decide +kernel)) ggX4_walk_X4_checkVertex
set_option maxRecDepth 20000 in
theorem ggX4_walk_X4_checkComplete : GoodIn wsX4_walk wsX4_checkComplete := goodIn_ca (goodIn_r _ [18, 19, 20, 9, 21, 11, 22, 23, 14, 24, 25, 26, 27, 28, 29, 30, 10, 12, 13, 172, 173, 174, 175, 176, 177, 178, 179, 180, 181, 182, 183, 184, 185] (by decide +kernel) (by decide +kernel)) (goodIn_sub (fun _ h => List.mem_cons_of_mem _ (List.mem_append_right _ h)) (by decide +kernel))
set_option maxRecDepth 20000 in
theorem gX4_walk_X4_checkComplete : GoodIn wsX4_walk (wsV RX4 97 RX4 yX4_checkComplete wsX4_checkComplete) := goodIn_app (goodIn_of _ (by decide +kernel)) ggX4_walk_X4_checkComplete
set_option maxRecDepth 20000 in
theorem ggX4_walk_X3_findAll : GoodIn wsX4_walk wsX3_findAll := goodIn_r _ [34, 35, 36, 37, 32, 38, 39, 40, 41, 42, 43, 44, 10, 11, 12, 13, 14, 45, 46, 47, 48, 49, 50, 51, 52, 53, 54, 55, 56, 57, 58, 59, 60, 61, 62, 63, 64, 65, 66, 67, 68, 69, 70, 71, 72, 73, 74, 75, 76, 77, 78, 79, 80, 81, 30, 82, 83, 84, 85, 86, 87, 88, 89, 90, 91, 92, 93, 94, 95, 25, 26, 27, 28, 29, 96, 97, 98, 99, 100, 101, 102, 103, 104, 105, 106, 107, 108, 109, 110, 111, 186, 187, 188, 189, 177, 178, 179, 180, 181, 182, 183, 184, 185, 190, 191] (by decide +kernel) (by decide +kernel)
set_option maxRecDepth 20000 in
theorem gX4_walk_X3_findAll_n100 : GoodIn wsX4_walk (wsX3_findAll) := ggX4_walk_X3_findAll
set_option maxRecDepth 20000 in
theorem ggX4_walk_X4_tellWalk : GoodIn wsX4_walk wsX4_tellWalk := goodIn_r _ [115, 116, 9, 45, 46, 47, 48, 49, 50, 51, 52, 53, 58, 59, 60, 61, 62, 63, 64, 75, 76, 77, 71, 117, 118, 119, 7, 120, 121, 3, 78, 11, 79, 80, 81, 30, 10, 12, 13, 14, 122, 32, 123, 124, 125, 126, 127, 128, 39, 42, 129, 130, 131, 132, 133, 134, 135, 136, 137, 138, 139, 140, 104, 105, 106, 107, 141, 142, 143, 144, 145, 146, 147, 148, 149, 150, 151, 152, 153, 154, 155, 25, 26, 27, 28, 29, 96, 97, 98, 99, 156, 157, 158, 159, 160, 93, 94, 95, 100, 101, 102, 103, 161, 162, 163, 164, 165, 166, 167, 168, 169, 170, 171, 65, 66, 67, 68, 69, 70, 172, 173, 174, 175, 176, 190, 191, 177, 178, 179, 180, 181, 182, 183, 184, 185, 186, 187, 188, 189, 192, 193, 194, 195] (by decide +kernel) (by decide +kernel)
set_option maxRecDepth 20000 in
theorem gX4_walk_X4_tellWalk : GoodIn wsX4_walk (wsV RX4 138 RX4 yX4_tellWalk wsX4_tellWalk) := goodIn_app (goodIn_of _ (by decide +kernel)) ggX4_walk_X4_tellWalk
theorem dX4_walk_0 : decode cX4_walk 0 = .ok (.aload_n 0, 1) := by decide +kernel
theorem dX4_walk_1 : decode cX4_walk 1 = .ok (.iload_n 1, 1) := by decide +kernel
theorem dX4_walk_2 : decode cX4_walk 2 = .ok (.invokevirtual 67, 3) := by decide +kernel
theorem dX4_walk_5 : decode cX4_walk 5 = .ok (.iload_n 2, 1) := by decide +kernel
theorem dX4_walk_6 : decode cX4_walk 6 = .ok (.ifCond .lt 8, 3) := by decide +kernel
theorem dX4_walk_9 : decode cX4_walk 9 = .ok (.iload_n 2, 1) := by decide +kernel
theorem dX4_walk_10 : decode cX4_walk 10 = .ok (.iconst 3, 1) := by decide +kernel
theorem dX4_walk_11 : decode cX4_walk 11 = .ok (.if_icmp .le 13, 3) := by decide +kernel
theorem dX4_walk_14 : decode cX4_walk 14 = .ok (.new 70, 3) := by decide +kernel
theorem dX4_walk_17 : decode cX4_walk 17 = .ok (.dup, 1) := by decide +kernel
theorem dX4_walk_18 : decode cX4_walk 18 = .ok (.ldc 136, 2) := by decide +kernel
theorem dX4_walk_20 : decode cX4_walk 20 = .ok (.invokespecial 74, 3) := by decide +kernel
theorem dX4_walk_23 : decode cX4_walk 23 = .ok (.athrow, 1) := by decide +kernel
theorem dX4_walk_24 : decode cX4_walk 24 = .ok (.aload_n 0, 1) := by decide +kernel
theorem dX4_walk_25 : decode cX4_walk 25 = .ok (.invokevirtual 97, 3) := by decide +kernel
theorem dX4_walk_28 : decode cX4_walk 28 = .ok (.aload_n 0, 1) := by decide +kernel
theorem dX4_walk_29 : decode cX4_walk 29 = .ok (.getfield 21, 3) := by decide +kernel
theorem dX4_walk_32 : decode cX4_walk 32 = .ok (.invokevirtual 100, 3) := by decide +kernel
theorem dX4_walk_35 : decode cX4_walk 35 = .ok (.aload_n 0, 1) := by decide +kernel
theorem dX4_walk_36 : decode cX4_walk 36 = .ok (.iload_n 1, 1) := by decide +kernel
theorem dX4_walk_37 : decode cX4_walk 37 = .ok (.iload_n 2, 1) := by decide +kernel
theorem dX4_walk_38 : decode cX4_walk 38 = .ok (.invokevirtual 138, 3) := by decide +kernel
theorem dX4_walk_41 : decode cX4_walk 41 = .ok (.ireturn, 1) := by decide +kernel
theorem dX4_checkPlayer_0 : decode cX4_checkPlayer 0 = .ok (.iload_n 1, 1) := by decide +kernel
theorem dX4_checkPlayer_1 : decode cX4_checkPlayer 1 = .ok (.ifCond .eq 18, 3) := by decide +kernel
theorem dX4_checkPlayer_4 : decode cX4_checkPlayer 4 = .ok (.iload_n 1, 1) := by decide +kernel
theorem dX4_checkPlayer_5 : decode cX4_checkPlayer 5 = .ok (.iconst 1, 1) := by decide +kernel
theorem dX4_checkPlayer_6 : decode cX4_checkPlayer 6 = .ok (.if_icmp .eq 13, 3) := by decide +kernel
theorem dX4_checkPlayer_9 : decode cX4_checkPlayer 9 = .ok (.new 70, 3) := by decide +kernel
theorem dX4_checkPlayer_12 : decode cX4_checkPlayer 12 = .ok (.dup, 1) := by decide +kernel
theorem dX4_checkPlayer_13 : decode cX4_checkPlayer 13 = .ok (.ldc 142, 2) := by decide +kernel
theorem dX4_checkPlayer_15 : decode cX4_checkPlayer 15 = .ok (.invokespecial 74, 3) := by decide +kernel
theorem dX4_checkPlayer_18 : decode cX4_checkPlayer 18 = .ok (.athrow, 1) := by decide +kernel
theorem dX4_checkPlayer_19 : decode cX4_checkPlayer 19 = .ok (.return_, 1) := by decide +kernel
set_option maxRecDepth 20000 in
theorem ggX4_checkVertex_X1_hasVertex : GoodIn wsX4_checkVertex wsX1_hasVertex := goodIn_r _ [7, 8, 14, 15, 16, 17, 18, 19, 20, 21, 22] (by decide +kernel) (by decide +kernel)
set_option maxRecDepth 20000 in
theorem gX4_checkVertex_X1_hasVertex_n144 : GoodIn wsX4_checkVertex (wsX1_hasVertex) := ggX4_checkVertex_X1_hasVertex
theorem dX4_checkVertex_0 : decode cX4_checkVertex 0 = .ok (.aload_n 0, 1) := by decide +kernel
theorem dX4_checkVertex_1 : decode cX4_checkVertex 1 = .ok (.getfield 10, 3) := by decide +kernel
theorem dX4_checkVertex_4 : decode cX4_checkVertex 4 = .ok (.iload_n 1, 1) := by decide +kernel
theorem dX4_checkVertex_5 : decode cX4_checkVertex 5 = .ok (.invokevirtual 144, 3) := by decide +kernel
theorem dX4_checkVertex_8 : decode cX4_checkVertex 8 = .ok (.ifCond .ne 13, 3) := by decide +kernel
theorem dX4_checkVertex_11 : decode cX4_checkVertex 11 = .ok (.new 70, 3) := by decide +kernel
theorem dX4_checkVertex_14 : decode cX4_checkVertex 14 = .ok (.dup, 1) := by decide +kernel
theorem dX4_checkVertex_15 : decode cX4_checkVertex 15 = .ok (.ldc 148, 2) := by decide +kernel
theorem dX4_checkVertex_17 : decode cX4_checkVertex 17 = .ok (.invokespecial 74, 3) := by decide +kernel
theorem dX4_checkVertex_20 : decode cX4_checkVertex 20 = .ok (.athrow, 1) := by decide +kernel
theorem dX4_checkVertex_21 : decode cX4_checkVertex 21 = .ok (.return_, 1) := by decide +kernel
set_option maxRecDepth 20000 in
theorem ggX4_checkComplete_X1_isComplete : GoodIn wsX4_checkComplete wsX1_isComplete := goodIn_r _ [7, 8, 9, 10, 11, 5, 12, 13, 14, 15, 16, 17, 18, 24, 25, 26, 27, 28, 29, 30, 31, 32] (by decide +kernel) (by decide +kernel)
set_option maxRecDepth 20000 in
theorem gX4_checkComplete_X1_isComplete_n150 : GoodIn wsX4_checkComplete (wsX1_isComplete) := ggX4_checkComplete_X1_isComplete
theorem dX4_checkComplete_0 : decode cX4_checkComplete 0 = .ok (.aload_n 0, 1) := by decide +kernel
theorem dX4_checkComplete_1 : decode cX4_checkComplete 1 = .ok (.getfield 10, 3) := by decide +kernel
theorem dX4_checkComplete_4 : decode cX4_checkComplete 4 = .ok (.invokevirtual 150, 3) := by decide +kernel
theorem dX4_checkComplete_7 : decode cX4_checkComplete 7 = .ok (.ifCond .ne 13, 3) := by decide +kernel
theorem dX4_checkComplete_10 : decode cX4_checkComplete 10 = .ok (.new 53, 3) := by decide +kernel
theorem dX4_checkComplete_13 : decode cX4_checkComplete 13 = .ok (.dup, 1) := by decide +kernel
theorem dX4_checkComplete_14 : decode cX4_checkComplete 14 = .ok (.ldc 154, 2) := by decide +kernel
theorem dX4_checkComplete_16 : decode cX4_checkComplete 16 = .ok (.invokespecial 57, 3) := by decide +kernel
theorem dX4_checkComplete_19 : decode cX4_checkComplete 19 = .ok (.athrow, 1) := by decide +kernel
theorem dX4_checkComplete_20 : decode cX4_checkComplete 20 = .ok (.return_, 1) := by decide +kernel
set_option maxRecDepth 20000 in
theorem ggX4_bestEdge_X1_ownerOf : GoodIn wsX4_bestEdge wsX1_ownerOf := goodIn_r _ [7, 8, 9, 10, 11, 5, 12, 13, 92, 93, 94, 95, 96, 97, 98, 99, 100] (by decide +kernel) (by decide +kernel)
set_option maxRecDepth 20000 in
theorem gX4_bestEdge_X1_ownerOf_n156 : GoodIn wsX4_bestEdge (wsX1_ownerOf) := ggX4_bestEdge_X1_ownerOf
set_option maxRecDepth 20000 in
theorem ggX4_bestEdge_X3_topOf : GoodIn wsX4_bestEdge wsX3_topOf := goodIn_r _ [17, 18, 19, 20, 15, 21, 22, 23, 10, 5, 11, 12, 13, 24, 25, 26, 27, 101, 102, 103, 104, 92, 93, 94, 95, 96, 97, 98, 99, 100] (by decide +kernel) (by decide +kernel)
set_option maxRecDepth 20000 in
theorem gX4_bestEdge_X3_topOf_n123 : GoodIn wsX4_bestEdge (wsX3_topOf) := ggX4_bestEdge_X3_topOf
set_option maxRecDepth 20000 in
theorem ggX4_bestEdge_X3_bottomOf : GoodIn wsX4_bestEdge wsX3_bottomOf := goodIn_r _ [27, 18, 19, 20, 15, 21, 22, 23, 10, 5, 11, 12, 13, 101, 102, 103, 104, 92, 93, 94, 95, 96, 97, 98, 99, 100] (by decide +kernel) (by decide +kernel)
set_option maxRecDepth 20000 in
theorem gX4_bestEdge_X3_bottomOf_n120 : GoodIn wsX4_bestEdge (wsX3_bottomOf) := ggX4_bestEdge_X3_bottomOf
set_option maxRecDepth 20000 in
theorem ggX4_bestEdge_X0_solve : GoodIn wsX4_bestEdge wsX0_solve := goodIn_r _ [31, 32, 33, 34, 35, 36, 5, 37, 38, 39, 40, 15, 41, 42, 18, 19, 20, 21, 22, 23, 10, 11, 12, 13, 43, 44, 45, 46, 47, 48, 49, 29, 50, 4, 6, 7, 8, 9, 51, 52, 53, 54, 55, 56, 57, 58, 59, 60, 61, 62, 63, 64, 65, 66, 67, 68, 69, 70, 71, 72, 73, 74, 75, 76, 77, 78, 79, 80, 81, 82, 83, 105, 106, 107, 108, 92, 93, 94, 95, 96, 97, 98, 99, 100, 101, 102, 103, 104] (by decide +kernel) (by decide +kernel)
set_option maxRecDepth 20000 in
theorem gX4_bestEdge_X0_solve_n103 : GoodIn wsX4_bestEdge (wsX0_solve) := ggX4_bestEdge_X0_solve
set_option maxRecDepth 20000 in
theorem ggX4_bestEdge_X1_waysFrom : GoodIn wsX4_bestEdge wsX1_waysFrom := goodIn_r _ [57, 58, 59, 9, 10, 11, 5, 12, 13, 92, 93, 94, 95, 96, 97, 98, 99, 100] (by decide +kernel) (by decide +kernel)
set_option maxRecDepth 20000 in
theorem gX4_bestEdge_X1_waysFrom_n159 : GoodIn wsX4_bestEdge (wsX1_waysFrom) := ggX4_bestEdge_X1_waysFrom
set_option maxRecDepth 20000 in
theorem ggX4_bestEdge_X1_wayFrom : GoodIn wsX4_bestEdge wsX1_wayFrom := goodIn_r _ [62, 59, 58, 63, 9, 10, 11, 5, 12, 13, 92, 93, 94, 95, 96, 97, 98, 99, 100] (by decide +kernel) (by decide +kernel)
set_option maxRecDepth 20000 in
theorem gX4_bestEdge_X1_wayFrom_n162 : GoodIn wsX4_bestEdge (wsX1_wayFrom) := ggX4_bestEdge_X1_wayFrom
set_option maxRecDepth 20000 in
theorem ggX4_bestEdge_X0_allows : GoodIn wsX4_bestEdge wsX0_allows := goodIn_r _ [86, 32, 72, 5, 73, 74, 75, 76, 77, 78, 29, 79, 34, 80, 81, 82, 83, 33, 105, 106, 107, 108, 92, 93, 94, 95, 96, 97, 98, 99, 100] (by decide +kernel) (by decide +kernel)
set_option maxRecDepth 20000 in
theorem gX4_bestEdge_X0_allows_n165 : GoodIn wsX4_bestEdge (wsX0_allows) := ggX4_bestEdge_X0_allows
theorem dX4_bestEdge_0 : decode cX4_bestEdge 0 = .ok (.aload_n 0, 1) := by decide +kernel
theorem dX4_bestEdge_1 : decode cX4_bestEdge 1 = .ok (.getfield 30, 3) := by decide +kernel
theorem dX4_bestEdge_4 : decode cX4_bestEdge 4 = .ok (.aload_n 0, 1) := by decide +kernel
theorem dX4_bestEdge_5 : decode cX4_bestEdge 5 = .ok (.getfield 10, 3) := by decide +kernel
theorem dX4_bestEdge_8 : decode cX4_bestEdge 8 = .ok (.iload_n 1, 1) := by decide +kernel
theorem dX4_bestEdge_9 : decode cX4_bestEdge 9 = .ok (.invokevirtual 156, 3) := by decide +kernel
theorem dX4_bestEdge_12 : decode cX4_bestEdge 12 = .ok (.aload_n 0, 1) := by decide +kernel
theorem dX4_bestEdge_13 : decode cX4_bestEdge 13 = .ok (.getfield 21, 3) := by decide +kernel
theorem dX4_bestEdge_16 : decode cX4_bestEdge 16 = .ok (.iload_n 1, 1) := by decide +kernel
theorem dX4_bestEdge_17 : decode cX4_bestEdge 17 = .ok (.invokevirtual 123, 3) := by decide +kernel
theorem dX4_bestEdge_20 : decode cX4_bestEdge 20 = .ok (.aload_n 0, 1) := by decide +kernel
theorem dX4_bestEdge_21 : decode cX4_bestEdge 21 = .ok (.getfield 21, 3) := by decide +kernel
theorem dX4_bestEdge_24 : decode cX4_bestEdge 24 = .ok (.iload_n 1, 1) := by decide +kernel
theorem dX4_bestEdge_25 : decode cX4_bestEdge 25 = .ok (.invokevirtual 120, 3) := by decide +kernel
theorem dX4_bestEdge_28 : decode cX4_bestEdge 28 = .ok (.invokevirtual 103, 3) := by decide +kernel
theorem dX4_bestEdge_31 : decode cX4_bestEdge 31 = .ok (.aload_n 0, 1) := by decide +kernel
theorem dX4_bestEdge_32 : decode cX4_bestEdge 32 = .ok (.getfield 10, 3) := by decide +kernel
theorem dX4_bestEdge_35 : decode cX4_bestEdge 35 = .ok (.iload_n 1, 1) := by decide +kernel
theorem dX4_bestEdge_36 : decode cX4_bestEdge 36 = .ok (.invokevirtual 159, 3) := by decide +kernel
theorem dX4_bestEdge_39 : decode cX4_bestEdge 39 = .ok (.istore_n 2, 1) := by decide +kernel
theorem dX4_bestEdge_40 : decode cX4_bestEdge 40 = .ok (.iconst 0, 1) := by decide +kernel
theorem dX4_bestEdge_41 : decode cX4_bestEdge 41 = .ok (.istore_n 3, 1) := by decide +kernel
theorem dX4_bestEdge_42 : decode cX4_bestEdge 42 = .ok (.iload_n 3, 1) := by decide +kernel
theorem dX4_bestEdge_43 : decode cX4_bestEdge 43 = .ok (.iload_n 2, 1) := by decide +kernel
theorem dX4_bestEdge_44 : decode cX4_bestEdge 44 = .ok (.if_icmp .ge 36, 3) := by decide +kernel
theorem dX4_bestEdge_47 : decode cX4_bestEdge 47 = .ok (.aload_n 0, 1) := by decide +kernel
theorem dX4_bestEdge_48 : decode cX4_bestEdge 48 = .ok (.getfield 10, 3) := by decide +kernel
theorem dX4_bestEdge_51 : decode cX4_bestEdge 51 = .ok (.iload_n 1, 1) := by decide +kernel
theorem dX4_bestEdge_52 : decode cX4_bestEdge 52 = .ok (.iload_n 3, 1) := by decide +kernel
theorem dX4_bestEdge_53 : decode cX4_bestEdge 53 = .ok (.invokevirtual 162, 3) := by decide +kernel
theorem dX4_bestEdge_56 : decode cX4_bestEdge 56 = .ok (.istore 4, 2) := by decide +kernel
theorem dX4_bestEdge_58 : decode cX4_bestEdge 58 = .ok (.aload_n 0, 1) := by decide +kernel
theorem dX4_bestEdge_59 : decode cX4_bestEdge 59 = .ok (.getfield 30, 3) := by decide +kernel
theorem dX4_bestEdge_62 : decode cX4_bestEdge 62 = .ok (.iload_n 1, 1) := by decide +kernel
theorem dX4_bestEdge_63 : decode cX4_bestEdge 63 = .ok (.iload 4, 2) := by decide +kernel
theorem dX4_bestEdge_65 : decode cX4_bestEdge 65 = .ok (.invokevirtual 165, 3) := by decide +kernel
theorem dX4_bestEdge_68 : decode cX4_bestEdge 68 = .ok (.ifCond .eq 6, 3) := by decide +kernel
theorem dX4_bestEdge_71 : decode cX4_bestEdge 71 = .ok (.iload 4, 2) := by decide +kernel
theorem dX4_bestEdge_73 : decode cX4_bestEdge 73 = .ok (.ireturn, 1) := by decide +kernel
theorem dX4_bestEdge_74 : decode cX4_bestEdge 74 = .ok (.iinc 3 1, 3) := by decide +kernel
theorem dX4_bestEdge_77 : decode cX4_bestEdge 77 = .ok (.goto (-35), 3) := by decide +kernel
theorem dX4_bestEdge_80 : decode cX4_bestEdge 80 = .ok (.iconst (-1), 1) := by decide +kernel
theorem dX4_bestEdge_81 : decode cX4_bestEdge 81 = .ok (.ireturn, 1) := by decide +kernel
set_option maxRecDepth 20000 in
theorem ggX4_chooseFor_X1_hasVertex : GoodIn wsX4_chooseFor wsX1_hasVertex := goodIn_r _ [6, 7, 101, 102, 103, 104, 105, 106, 107, 108, 109] (by decide +kernel) (by decide +kernel)
set_option maxRecDepth 20000 in
theorem gX4_chooseFor_X1_hasVertex_n144 : GoodIn wsX4_chooseFor (wsX1_hasVertex) := ggX4_chooseFor_X1_hasVertex
set_option maxRecDepth 20000 in
theorem ggX4_chooseFor_X1_ownerOf : GoodIn wsX4_chooseFor wsX1_ownerOf := goodIn_r _ [10, 11, 12, 3, 5, 4, 6, 7, 101, 102, 103, 104, 105, 106, 107, 108, 109] (by decide +kernel) (by decide +kernel)
set_option maxRecDepth 20000 in
theorem gX4_chooseFor_X1_ownerOf_n156 : GoodIn wsX4_chooseFor (wsX1_ownerOf) := ggX4_chooseFor_X1_ownerOf
set_option maxRecDepth 20000 in
theorem ggX4_chooseFor_X1_fixedOf : GoodIn wsX4_chooseFor wsX1_fixedOf := goodIn_r _ [15, 16, 12, 3, 5, 4, 6, 7, 101, 102, 103, 104, 105, 106, 107, 108, 109] (by decide +kernel) (by decide +kernel)
set_option maxRecDepth 20000 in
theorem gX4_chooseFor_X1_fixedOf_n94 : GoodIn wsX4_chooseFor (wsX1_fixedOf) := ggX4_chooseFor_X1_fixedOf
set_option maxRecDepth 20000 in
theorem ggX4_chooseFor_X4_bestEdge : GoodIn wsX4_chooseFor wsX4_bestEdge := goodIn_r _ [21, 22, 1, 23, 8, 4, 9, 10, 11, 12, 3, 5, 6, 7, 24, 25, 26, 27, 28, 29, 30, 31, 32, 33, 34, 35, 36, 37, 38, 39, 40, 41, 42, 43, 44, 45, 46, 47, 48, 49, 50, 51, 52, 53, 54, 55, 56, 57, 58, 59, 60, 61, 62, 63, 64, 65, 66, 67, 16, 68, 69, 70, 71, 72, 73, 74, 75, 76, 77, 78, 79, 80, 81, 82, 83, 84, 85, 86, 87, 88, 89, 90, 91, 92, 93, 94, 95, 96, 97, 98, 99, 100, 101, 102, 103, 104, 105, 106, 107, 108, 109, 110, 111, 112, 113, 114, 115, 116, 117] (by decide +kernel) (by decide +kernel)
set_option maxRecDepth 20000 in
theorem gX4_chooseFor_X4_bestEdge : GoodIn wsX4_chooseFor (wsV RX4 126 RX4 yX4_bestEdge wsX4_bestEdge) := goodIn_app (goodIn_of _ (by decide +kernel)) ggX4_chooseFor_X4_bestEdge
theorem dX4_chooseFor_0 : decode cX4_chooseFor 0 = .ok (.iconst 0, 1) := by decide +kernel
theorem dX4_chooseFor_1 : decode cX4_chooseFor 1 = .ok (.istore_n 2, 1) := by decide +kernel
theorem dX4_chooseFor_2 : decode cX4_chooseFor 2 = .ok (.iload_n 2, 1) := by decide +kernel
theorem dX4_chooseFor_3 : decode cX4_chooseFor 3 = .ok (.bipush 7, 2) := by decide +kernel
theorem dX4_chooseFor_5 : decode cX4_chooseFor 5 = .ok (.if_icmp .ge 69, 3) := by decide +kernel
theorem dX4_chooseFor_8 : decode cX4_chooseFor 8 = .ok (.aload_n 0, 1) := by decide +kernel
theorem dX4_chooseFor_9 : decode cX4_chooseFor 9 = .ok (.getfield 10, 3) := by decide +kernel
theorem dX4_chooseFor_12 : decode cX4_chooseFor 12 = .ok (.iload_n 2, 1) := by decide +kernel
theorem dX4_chooseFor_13 : decode cX4_chooseFor 13 = .ok (.invokevirtual 144, 3) := by decide +kernel
theorem dX4_chooseFor_16 : decode cX4_chooseFor 16 = .ok (.ifCond .eq 31, 3) := by decide +kernel
theorem dX4_chooseFor_19 : decode cX4_chooseFor 19 = .ok (.aload_n 0, 1) := by decide +kernel
theorem dX4_chooseFor_20 : decode cX4_chooseFor 20 = .ok (.getfield 10, 3) := by decide +kernel
theorem dX4_chooseFor_23 : decode cX4_chooseFor 23 = .ok (.iload_n 2, 1) := by decide +kernel
theorem dX4_chooseFor_24 : decode cX4_chooseFor 24 = .ok (.invokevirtual 156, 3) := by decide +kernel
theorem dX4_chooseFor_27 : decode cX4_chooseFor 27 = .ok (.iload_n 1, 1) := by decide +kernel
theorem dX4_chooseFor_28 : decode cX4_chooseFor 28 = .ok (.if_icmp .ne 19, 3) := by decide +kernel
theorem dX4_chooseFor_31 : decode cX4_chooseFor 31 = .ok (.aload_n 0, 1) := by decide +kernel
theorem dX4_chooseFor_32 : decode cX4_chooseFor 32 = .ok (.getfield 10, 3) := by decide +kernel
theorem dX4_chooseFor_35 : decode cX4_chooseFor 35 = .ok (.iload_n 2, 1) := by decide +kernel
theorem dX4_chooseFor_36 : decode cX4_chooseFor 36 = .ok (.invokevirtual 94, 3) := by decide +kernel
theorem dX4_chooseFor_39 : decode cX4_chooseFor 39 = .ok (.iconst (-1), 1) := by decide +kernel
theorem dX4_chooseFor_40 : decode cX4_chooseFor 40 = .ok (.if_icmp .ne 7, 3) := by decide +kernel
theorem dX4_chooseFor_43 : decode cX4_chooseFor 43 = .ok (.iconst 1, 1) := by decide +kernel
theorem dX4_chooseFor_44 : decode cX4_chooseFor 44 = .ok (.goto 4, 3) := by decide +kernel
theorem dX4_chooseFor_47 : decode cX4_chooseFor 47 = .ok (.iconst 0, 1) := by decide +kernel
theorem dX4_chooseFor_48 : decode cX4_chooseFor 48 = .ok (.istore_n 3, 1) := by decide +kernel
theorem dX4_chooseFor_49 : decode cX4_chooseFor 49 = .ok (.aload_n 0, 1) := by decide +kernel
theorem dX4_chooseFor_50 : decode cX4_chooseFor 50 = .ok (.getfield 41, 3) := by decide +kernel
theorem dX4_chooseFor_53 : decode cX4_chooseFor 53 = .ok (.iload_n 2, 1) := by decide +kernel
theorem dX4_chooseFor_54 : decode cX4_chooseFor 54 = .ok (.iload_n 3, 1) := by decide +kernel
theorem dX4_chooseFor_55 : decode cX4_chooseFor 55 = .ok (.ifCond .eq 11, 3) := by decide +kernel
theorem dX4_chooseFor_58 : decode cX4_chooseFor 58 = .ok (.aload_n 0, 1) := by decide +kernel
theorem dX4_chooseFor_59 : decode cX4_chooseFor 59 = .ok (.iload_n 2, 1) := by decide +kernel
theorem dX4_chooseFor_60 : decode cX4_chooseFor 60 = .ok (.invokevirtual 126, 3) := by decide +kernel
theorem dX4_chooseFor_63 : decode cX4_chooseFor 63 = .ok (.goto 4, 3) := by decide +kernel
theorem dX4_chooseFor_66 : decode cX4_chooseFor 66 = .ok (.iconst (-1), 1) := by decide +kernel
theorem dX4_chooseFor_67 : decode cX4_chooseFor 67 = .ok (.iastore, 1) := by decide +kernel
theorem dX4_chooseFor_68 : decode cX4_chooseFor 68 = .ok (.iinc 2 1, 3) := by decide +kernel
theorem dX4_chooseFor_71 : decode cX4_chooseFor 71 = .ok (.goto (-69), 3) := by decide +kernel
theorem dX4_chooseFor_74 : decode cX4_chooseFor 74 = .ok (.return_, 1) := by decide +kernel
set_option maxRecDepth 20000 in
theorem ggX4_fixChosen_X1_setFixed : GoodIn wsX4_fixChosen wsX1_setFixed := goodIn_r _ [6, 7, 8, 9, 10, 4, 11, 12, 18, 19, 20, 21, 22, 23, 24, 25, 26] (by decide +kernel) (by decide +kernel)
set_option maxRecDepth 20000 in
theorem gX4_fixChosen_X1_setFixed_n90 : GoodIn wsX4_fixChosen (wsX1_setFixed) := ggX4_fixChosen_X1_setFixed
theorem dX4_fixChosen_0 : decode cX4_fixChosen 0 = .ok (.iconst 0, 1) := by decide +kernel
theorem dX4_fixChosen_1 : decode cX4_fixChosen 1 = .ok (.istore_n 1, 1) := by decide +kernel
theorem dX4_fixChosen_2 : decode cX4_fixChosen 2 = .ok (.iconst 0, 1) := by decide +kernel
theorem dX4_fixChosen_3 : decode cX4_fixChosen 3 = .ok (.istore_n 2, 1) := by decide +kernel
theorem dX4_fixChosen_4 : decode cX4_fixChosen 4 = .ok (.iload_n 2, 1) := by decide +kernel
