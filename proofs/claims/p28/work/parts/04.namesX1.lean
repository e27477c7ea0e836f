theorem dX1_init_0 : decode cX1_init 0 = .ok (.aload_n 0, 1) := by decide +kernel
theorem dX1_init_1 : decode cX1_init 1 = .ok (.invokespecial 3, 3) := by decide +kernel
theorem dX1_init_4 : decode cX1_init 4 = .ok (.aload_n 0, 1) := by decide +kernel
theorem dX1_init_5 : decode cX1_init 5 = .ok (.iconst 0, 1) := by decide +kernel
theorem dX1_init_6 : decode cX1_init 6 = .ok (.putfield 9, 3) := by decide +kernel
theorem dX1_init_9 : decode cX1_init 9 = .ok (.aload_n 0, 1) := by decide +kernel
theorem dX1_init_10 : decode cX1_init 10 = .ok (.bipush 12, 2) := by decide +kernel
theorem dX1_init_12 : decode cX1_init 12 = .ok (.newarray .int, 2) := by decide +kernel
theorem dX1_init_14 : decode cX1_init 14 = .ok (.putfield 15, 3) := by decide +kernel
theorem dX1_init_17 : decode cX1_init 17 = .ok (.aload_n 0, 1) := by decide +kernel
theorem dX1_init_18 : decode cX1_init 18 = .ok (.bipush 12, 2) := by decide +kernel
theorem dX1_init_20 : decode cX1_init 20 = .ok (.newarray .int, 2) := by decide +kernel
theorem dX1_init_22 : decode cX1_init 22 = .ok (.putfield 19, 3) := by decide +kernel
theorem dX1_init_25 : decode cX1_init 25 = .ok (.aload_n 0, 1) := by decide +kernel
theorem dX1_init_26 : decode cX1_init 26 = .ok (.bipush 12, 2) := by decide +kernel
theorem dX1_init_28 : decode cX1_init 28 = .ok (.newarray .int, 2) := by decide +kernel
theorem dX1_init_30 : decode cX1_init 30 = .ok (.putfield 22, 3) := by decide +kernel
theorem dX1_init_33 : decode cX1_init 33 = .ok (.aload_n 0, 1) := by decide +kernel
theorem dX1_init_34 : decode cX1_init 34 = .ok (.bipush 12, 2) := by decide +kernel
theorem dX1_init_36 : decode cX1_init 36 = .ok (.newarray .int, 2) := by decide +kernel
theorem dX1_init_38 : decode cX1_init 38 = .ok (.putfield 25, 3) := by decide +kernel
theorem dX1_init_41 : decode cX1_init 41 = .ok (.aload_n 0, 1) := by decide +kernel
theorem dX1_init_42 : decode cX1_init 42 = .ok (.bipush 12, 2) := by decide +kernel
theorem dX1_init_44 : decode cX1_init 44 = .ok (.newarray .int, 2) := by decide +kernel
theorem dX1_init_46 : decode cX1_init 46 = .ok (.putfield 28, 3) := by decide +kernel
theorem dX1_init_49 : decode cX1_init 49 = .ok (.aload_n 0, 1) := by decide +kernel
theorem dX1_init_50 : decode cX1_init 50 = .ok (.bipush 12, 2) := by decide +kernel
theorem dX1_init_52 : decode cX1_init 52 = .ok (.newarray .int, 2) := by decide +kernel
theorem dX1_init_54 : decode cX1_init 54 = .ok (.putfield 31, 3) := by decide +kernel
theorem dX1_init_57 : decode cX1_init 57 = .ok (.return_, 1) := by decide +kernel
set_option maxRecDepth 20000 in
theorem ggX1_follow_X0_stepOf : GoodIn wsX1_follow wsX0_stepOf := goodIn_r _ [13, 14, 15, 16, 17, 18, 19, 20, 21, 12, 22, 23, 24, 73, 74, 75, 76, 77, 78, 79, 80, 81, 82] (by decide +kernel) (by decide +kernel)
set_option maxRecDepth 20000 in
theorem gX1_follow_X0_stepOf : GoodIn wsX1_follow (wsV RX1 43 RX0 yX0_stepOf wsX0_stepOf) := goodIn_app (goodIn_of _ (by decide +kernel)) ggX1_follow_X0_stepOf
set_option maxRecDepth 20000 in
theorem ggX1_follow_X4_put : GoodIn wsX1_follow wsX4_put := goodIn_r _ [26] (by decide +kernel) (by decide +kernel)
set_option maxRecDepth 20000 in
theorem gX1_follow_X4_put_n47 : GoodIn wsX1_follow (wsX4_put) := ggX1_follow_X4_put
set_option maxRecDepth 20000 in
theorem ggX1_follow_X1_findSources : GoodIn wsX1_follow wsX1_findSources := goodIn_r _ [31, 6, 32, 33, 34, 35, 16, 17, 18, 36, 37, 38, 30, 39, 7, 25, 26, 83, 84, 85, 86, 87, 88, 89, 73, 74, 75, 76, 77, 78, 79, 80, 81, 82] (by decide +kernel) (by decide +kernel)
set_option maxRecDepth 20000 in
theorem gX1_follow_X1_findSources : GoodIn wsX1_follow (wsV RX1 51 RX1 yX1_findSources wsX1_findSources) := goodIn_app (goodIn_of _ (by decide +kernel)) ggX1_follow_X1_findSources
set_option maxRecDepth 20000 in
theorem ggX1_follow_X1_drawNeeds : GoodIn wsX1_follow wsX1_drawNeeds := goodIn_r _ [43, 6, 44, 8, 32, 45, 46, 47, 12, 48, 14, 49, 16, 17, 18, 25, 26, 83, 84, 85, 86, 87, 88, 89, 73, 74, 75, 76, 77, 78, 79, 80, 81, 82] (by decide +kernel) (by decide +kernel)
set_option maxRecDepth 20000 in
theorem gX1_follow_X1_drawNeeds : GoodIn wsX1_follow (wsV RX1 55 RX1 yX1_drawNeeds wsX1_drawNeeds) := goodIn_app (goodIn_of _ (by decide +kernel)) ggX1_follow_X1_drawNeeds
set_option maxRecDepth 20000 in
theorem ggX1_follow_X1_findPores : GoodIn wsX1_follow wsX1_findPores := goodIn_r _ [53, 6, 54, 32, 44, 55, 56, 57, 4, 58, 59, 60, 61, 12, 62, 14, 63, 64, 65, 66, 67, 68, 69, 70, 71, 72, 15, 16, 17, 18, 83, 84, 85, 86, 87, 88, 89, 73, 74, 75, 76, 77, 78, 79, 80, 81, 82] (by decide +kernel) (by decide +kernel)
set_option maxRecDepth 20000 in
theorem gX1_follow_X1_findPores : GoodIn wsX1_follow (wsV RX1 58 RX1 yX1_findPores wsX1_findPores) := goodIn_app (goodIn_of _ (by decide +kernel)) ggX1_follow_X1_findPores
theorem dX1_follow_0 : decode cX1_follow 0 = .ok (.aload_n 0, 1) := by decide +kernel
theorem dX1_follow_1 : decode cX1_follow 1 = .ok (.aload_n 1, 1) := by decide +kernel
theorem dX1_follow_2 : decode cX1_follow 2 = .ok (.getfield 34, 3) := by decide +kernel
theorem dX1_follow_5 : decode cX1_follow 5 = .ok (.bipush 12, 2) := by decide +kernel
theorem dX1_follow_7 : decode cX1_follow 7 = .ok (.invokestatic 37, 3) := by decide +kernel
theorem dX1_follow_10 : decode cX1_follow 10 = .ok (.putfield 9, 3) := by decide +kernel
theorem dX1_follow_13 : decode cX1_follow 13 = .ok (.iconst 0, 1) := by decide +kernel
theorem dX1_follow_14 : decode cX1_follow 14 = .ok (.istore_n 2, 1) := by decide +kernel
theorem dX1_follow_15 : decode cX1_follow 15 = .ok (.iload_n 2, 1) := by decide +kernel
theorem dX1_follow_16 : decode cX1_follow 16 = .ok (.aload_n 0, 1) := by decide +kernel
theorem dX1_follow_17 : decode cX1_follow 17 = .ok (.getfield 9, 3) := by decide +kernel
theorem dX1_follow_20 : decode cX1_follow 20 = .ok (.if_icmp .ge 34, 3) := by decide +kernel
theorem dX1_follow_23 : decode cX1_follow 23 = .ok (.aload_n 0, 1) := by decide +kernel
theorem dX1_follow_24 : decode cX1_follow 24 = .ok (.getfield 15, 3) := by decide +kernel
theorem dX1_follow_27 : decode cX1_follow 27 = .ok (.iload_n 2, 1) := by decide +kernel
theorem dX1_follow_28 : decode cX1_follow 28 = .ok (.aload_n 1, 1) := by decide +kernel
theorem dX1_follow_29 : decode cX1_follow 29 = .ok (.iload_n 2, 1) := by decide +kernel
theorem dX1_follow_30 : decode cX1_follow 30 = .ok (.invokevirtual 43, 3) := by decide +kernel
theorem dX1_follow_33 : decode cX1_follow 33 = .ok (.iastore, 1) := by decide +kernel
theorem dX1_follow_34 : decode cX1_follow 34 = .ok (.aload_n 0, 1) := by decide +kernel
theorem dX1_follow_35 : decode cX1_follow 35 = .ok (.getfield 19, 3) := by decide +kernel
theorem dX1_follow_38 : decode cX1_follow 38 = .ok (.aload_n 0, 1) := by decide +kernel
theorem dX1_follow_39 : decode cX1_follow 39 = .ok (.getfield 15, 3) := by decide +kernel
theorem dX1_follow_42 : decode cX1_follow 42 = .ok (.iload_n 2, 1) := by decide +kernel
theorem dX1_follow_43 : decode cX1_follow 43 = .ok (.iaload, 1) := by decide +kernel
theorem dX1_follow_44 : decode cX1_follow 44 = .ok (.iload_n 2, 1) := by decide +kernel
theorem dX1_follow_45 : decode cX1_follow 45 = .ok (.invokestatic 47, 3) := by decide +kernel
theorem dX1_follow_48 : decode cX1_follow 48 = .ok (.iinc 2 1, 3) := by decide +kernel
theorem dX1_follow_51 : decode cX1_follow 51 = .ok (.goto (-36), 3) := by decide +kernel
theorem dX1_follow_54 : decode cX1_follow 54 = .ok (.aload_n 0, 1) := by decide +kernel
theorem dX1_follow_55 : decode cX1_follow 55 = .ok (.aload_n 1, 1) := by decide +kernel
theorem dX1_follow_56 : decode cX1_follow 56 = .ok (.invokevirtual 51, 3) := by decide +kernel
theorem dX1_follow_59 : decode cX1_follow 59 = .ok (.aload_n 0, 1) := by decide +kernel
theorem dX1_follow_60 : decode cX1_follow 60 = .ok (.aload_n 1, 1) := by decide +kernel
theorem dX1_follow_61 : decode cX1_follow 61 = .ok (.invokevirtual 55, 3) := by decide +kernel
theorem dX1_follow_64 : decode cX1_follow 64 = .ok (.aload_n 0, 1) := by decide +kernel
theorem dX1_follow_65 : decode cX1_follow 65 = .ok (.aload_n 1, 1) := by decide +kernel
theorem dX1_follow_66 : decode cX1_follow 66 = .ok (.invokevirtual 58, 3) := by decide +kernel
theorem dX1_follow_69 : decode cX1_follow 69 = .ok (.return_, 1) := by decide +kernel
set_option maxRecDepth 20000 in
theorem ggX1_findSources_X4_at : GoodIn wsX1_findSources wsX4_at := goodIn_r _ [8] (by decide +kernel) (by decide +kernel)
set_option maxRecDepth 20000 in
theorem gX1_findSources_X4_at_n67 : GoodIn wsX1_findSources (wsX4_at) := ggX1_findSources_X4_at
set_option maxRecDepth 20000 in
theorem ggX1_findSources_X1_offer : GoodIn wsX1_findSources wsX1_offer := goodIn_r _ [13, 14, 2, 6, 7, 8, 15, 16, 17, 18, 19, 20, 21, 22, 23] (by decide +kernel) (by decide +kernel)
set_option maxRecDepth 20000 in
theorem gX1_findSources_X1_offer : GoodIn wsX1_findSources (wsV RX1 74 RX1 yX1_offer wsX1_offer) := goodIn_app (goodIn_of _ (by decide +kernel)) ggX1_findSources_X1_offer
theorem dX1_findSources_0 : decode cX1_findSources 0 = .ok (.iconst 0, 1) := by decide +kernel
theorem dX1_findSources_1 : decode cX1_findSources 1 = .ok (.istore_n 2, 1) := by decide +kernel
theorem dX1_findSources_2 : decode cX1_findSources 2 = .ok (.iload_n 2, 1) := by decide +kernel
theorem dX1_findSources_3 : decode cX1_findSources 3 = .ok (.aload_n 0, 1) := by decide +kernel
theorem dX1_findSources_4 : decode cX1_findSources 4 = .ok (.getfield 9, 3) := by decide +kernel
theorem dX1_findSources_7 : decode cX1_findSources 7 = .ok (.if_icmp .ge 16, 3) := by decide +kernel
theorem dX1_findSources_10 : decode cX1_findSources 10 = .ok (.aload_n 0, 1) := by decide +kernel
theorem dX1_findSources_11 : decode cX1_findSources 11 = .ok (.getfield 22, 3) := by decide +kernel
theorem dX1_findSources_14 : decode cX1_findSources 14 = .ok (.iload_n 2, 1) := by decide +kernel
theorem dX1_findSources_15 : decode cX1_findSources 15 = .ok (.iconst (-1), 1) := by decide +kernel
theorem dX1_findSources_16 : decode cX1_findSources 16 = .ok (.iastore, 1) := by decide +kernel
theorem dX1_findSources_17 : decode cX1_findSources 17 = .ok (.iinc 2 1, 3) := by decide +kernel
theorem dX1_findSources_20 : decode cX1_findSources 20 = .ok (.goto (-18), 3) := by decide +kernel
theorem dX1_findSources_23 : decode cX1_findSources 23 = .ok (.iconst 0, 1) := by decide +kernel
theorem dX1_findSources_24 : decode cX1_findSources 24 = .ok (.istore_n 2, 1) := by decide +kernel
theorem dX1_findSources_25 : decode cX1_findSources 25 = .ok (.iload_n 2, 1) := by decide +kernel
theorem dX1_findSources_26 : decode cX1_findSources 26 = .ok (.aload_n 1, 1) := by decide +kernel
theorem dX1_findSources_27 : decode cX1_findSources 27 = .ok (.getfield 61, 3) := by decide +kernel
theorem dX1_findSources_30 : decode cX1_findSources 30 = .ok (.if_icmp .ge 42, 3) := by decide +kernel
theorem dX1_findSources_33 : decode cX1_findSources 33 = .ok (.aload_n 1, 1) := by decide +kernel
theorem dX1_findSources_34 : decode cX1_findSources 34 = .ok (.getfield 64, 3) := by decide +kernel
theorem dX1_findSources_37 : decode cX1_findSources 37 = .ok (.iload_n 2, 1) := by decide +kernel
theorem dX1_findSources_38 : decode cX1_findSources 38 = .ok (.invokestatic 67, 3) := by decide +kernel
theorem dX1_findSources_41 : decode cX1_findSources 41 = .ok (.istore_n 3, 1) := by decide +kernel
theorem dX1_findSources_42 : decode cX1_findSources 42 = .ok (.aload_n 1, 1) := by decide +kernel
theorem dX1_findSources_43 : decode cX1_findSources 43 = .ok (.getfield 71, 3) := by decide +kernel
theorem dX1_findSources_46 : decode cX1_findSources 46 = .ok (.iload_n 2, 1) := by decide +kernel
theorem dX1_findSources_47 : decode cX1_findSources 47 = .ok (.invokestatic 67, 3) := by decide +kernel
theorem dX1_findSources_50 : decode cX1_findSources 50 = .ok (.istore 4, 2) := by decide +kernel
theorem dX1_findSources_52 : decode cX1_findSources 52 = .ok (.aload_n 0, 1) := by decide +kernel
theorem dX1_findSources_53 : decode cX1_findSources 53 = .ok (.iload_n 3, 1) := by decide +kernel
theorem dX1_findSources_54 : decode cX1_findSources 54 = .ok (.iload 4, 2) := by decide +kernel
theorem dX1_findSources_56 : decode cX1_findSources 56 = .ok (.invokevirtual 74, 3) := by decide +kernel
theorem dX1_findSources_59 : decode cX1_findSources 59 = .ok (.aload_n 0, 1) := by decide +kernel
theorem dX1_findSources_60 : decode cX1_findSources 60 = .ok (.iload 4, 2) := by decide +kernel
theorem dX1_findSources_62 : decode cX1_findSources 62 = .ok (.iload_n 3, 1) := by decide +kernel
theorem dX1_findSources_63 : decode cX1_findSources 63 = .ok (.invokevirtual 74, 3) := by decide +kernel
theorem dX1_findSources_66 : decode cX1_findSources 66 = .ok (.iinc 2 1, 3) := by decide +kernel
theorem dX1_findSources_69 : decode cX1_findSources 69 = .ok (.goto (-44), 3) := by decide +kernel
theorem dX1_findSources_72 : decode cX1_findSources 72 = .ok (.return_, 1) := by decide +kernel
set_option maxRecDepth 20000 in
theorem ggX1_offer_X4_at : GoodIn wsX1_offer wsX4_at := goodIn_r _ [5] (by decide +kernel) (by decide +kernel)
set_option maxRecDepth 20000 in
theorem gX1_offer_X4_at_n67 : GoodIn wsX1_offer (wsX4_at) := ggX1_offer_X4_at
set_option maxRecDepth 20000 in
theorem ggX1_offer_X4_put : GoodIn wsX1_offer wsX4_put := goodIn_r _ [7] (by decide +kernel) (by decide +kernel)
set_option maxRecDepth 20000 in
theorem gX1_offer_X4_put_n47 : GoodIn wsX1_offer (wsX4_put) := ggX1_offer_X4_put
theorem dX1_offer_0 : decode cX1_offer 0 = .ok (.aload_n 0, 1) := by decide +kernel
theorem dX1_offer_1 : decode cX1_offer 1 = .ok (.getfield 15, 3) := by decide +kernel
theorem dX1_offer_4 : decode cX1_offer 4 = .ok (.iload_n 2, 1) := by decide +kernel
theorem dX1_offer_5 : decode cX1_offer 5 = .ok (.invokestatic 67, 3) := by decide +kernel
theorem dX1_offer_8 : decode cX1_offer 8 = .ok (.istore_n 3, 1) := by decide +kernel
theorem dX1_offer_9 : decode cX1_offer 9 = .ok (.iload_n 3, 1) := by decide +kernel
theorem dX1_offer_10 : decode cX1_offer 10 = .ok (.aload_n 0, 1) := by decide +kernel
theorem dX1_offer_11 : decode cX1_offer 11 = .ok (.getfield 15, 3) := by decide +kernel
theorem dX1_offer_14 : decode cX1_offer 14 = .ok (.iload_n 1, 1) := by decide +kernel
theorem dX1_offer_15 : decode cX1_offer 15 = .ok (.invokestatic 67, 3) := by decide +kernel
theorem dX1_offer_18 : decode cX1_offer 18 = .ok (.if_icmp .le 31, 3) := by decide +kernel
theorem dX1_offer_21 : decode cX1_offer 21 = .ok (.iload_n 3, 1) := by decide +kernel
theorem dX1_offer_22 : decode cX1_offer 22 = .ok (.aload_n 0, 1) := by decide +kernel
theorem dX1_offer_23 : decode cX1_offer 23 = .ok (.getfield 15, 3) := by decide +kernel
theorem dX1_offer_26 : decode cX1_offer 26 = .ok (.aload_n 0, 1) := by decide +kernel
theorem dX1_offer_27 : decode cX1_offer 27 = .ok (.getfield 22, 3) := by decide +kernel
theorem dX1_offer_30 : decode cX1_offer 30 = .ok (.iload_n 1, 1) := by decide +kernel
theorem dX1_offer_31 : decode cX1_offer 31 = .ok (.invokestatic 67, 3) := by decide +kernel
theorem dX1_offer_34 : decode cX1_offer 34 = .ok (.invokestatic 67, 3) := by decide +kernel
theorem dX1_offer_37 : decode cX1_offer 37 = .ok (.if_icmp .le 12, 3) := by decide +kernel
theorem dX1_offer_40 : decode cX1_offer 40 = .ok (.aload_n 0, 1) := by decide +kernel
theorem dX1_offer_41 : decode cX1_offer 41 = .ok (.getfield 22, 3) := by decide +kernel
theorem dX1_offer_44 : decode cX1_offer 44 = .ok (.iload_n 1, 1) := by decide +kernel
theorem dX1_offer_45 : decode cX1_offer 45 = .ok (.iload_n 2, 1) := by decide +kernel
theorem dX1_offer_46 : decode cX1_offer 46 = .ok (.invokestatic 47, 3) := by decide +kernel
theorem dX1_offer_49 : decode cX1_offer 49 = .ok (.return_, 1) := by decide +kernel
set_option maxRecDepth 20000 in
theorem ggX1_drawNeeds_X0_firstNeed : GoodIn wsX1_drawNeeds wsX0_firstNeed := goodIn_r _ [9, 10, 11, 12, 13, 14, 24, 25, 26, 27, 28, 29, 30, 31, 32, 33] (by decide +kernel) (by decide +kernel)
set_option maxRecDepth 20000 in
theorem gX1_drawNeeds_X0_firstNeed : GoodIn wsX1_drawNeeds (wsV RX1 78 RX0 yX0_firstNeed wsX0_firstNeed) := goodIn_app (goodIn_of _ (by decide +kernel)) ggX1_drawNeeds_X0_firstNeed
set_option maxRecDepth 20000 in
theorem ggX1_drawNeeds_X4_at : GoodIn wsX1_drawNeeds wsX4_at := goodIn_r _ [14] (by decide +kernel) (by decide +kernel)
set_option maxRecDepth 20000 in
theorem gX1_drawNeeds_X4_at_n67 : GoodIn wsX1_drawNeeds (wsX4_at) := ggX1_drawNeeds_X4_at
set_option maxRecDepth 20000 in
theorem ggX1_drawNeeds_X4_put : GoodIn wsX1_drawNeeds wsX4_put := goodIn_r _ [16] (by decide +kernel) (by decide +kernel)
set_option maxRecDepth 20000 in
theorem gX1_drawNeeds_X4_put_n47 : GoodIn wsX1_drawNeeds (wsX4_put) := ggX1_drawNeeds_X4_put
theorem dX1_drawNeeds_0 : decode cX1_drawNeeds 0 = .ok (.iconst 0, 1) := by decide +kernel
theorem dX1_drawNeeds_1 : decode cX1_drawNeeds 1 = .ok (.istore_n 2, 1) := by decide +kernel
theorem dX1_drawNeeds_2 : decode cX1_drawNeeds 2 = .ok (.iload_n 2, 1) := by decide +kernel
theorem dX1_drawNeeds_3 : decode cX1_drawNeeds 3 = .ok (.aload_n 0, 1) := by decide +kernel
theorem dX1_drawNeeds_4 : decode cX1_drawNeeds 4 = .ok (.getfield 9, 3) := by decide +kernel
theorem dX1_drawNeeds_7 : decode cX1_drawNeeds 7 = .ok (.if_icmp .ge 20, 3) := by decide +kernel
theorem dX1_drawNeeds_10 : decode cX1_drawNeeds 10 = .ok (.aload_n 0, 1) := by decide +kernel
theorem dX1_drawNeeds_11 : decode cX1_drawNeeds 11 = .ok (.getfield 25, 3) := by decide +kernel
theorem dX1_drawNeeds_14 : decode cX1_drawNeeds 14 = .ok (.iload_n 2, 1) := by decide +kernel
theorem dX1_drawNeeds_15 : decode cX1_drawNeeds 15 = .ok (.aload_n 1, 1) := by decide +kernel
theorem dX1_drawNeeds_16 : decode cX1_drawNeeds 16 = .ok (.iload_n 2, 1) := by decide +kernel
theorem dX1_drawNeeds_17 : decode cX1_drawNeeds 17 = .ok (.invokevirtual 78, 3) := by decide +kernel
theorem dX1_drawNeeds_20 : decode cX1_drawNeeds 20 = .ok (.iastore, 1) := by decide +kernel
theorem dX1_drawNeeds_21 : decode cX1_drawNeeds 21 = .ok (.iinc 2 1, 3) := by decide +kernel
theorem dX1_drawNeeds_24 : decode cX1_drawNeeds 24 = .ok (.goto (-22), 3) := by decide +kernel
theorem dX1_drawNeeds_27 : decode cX1_drawNeeds 27 = .ok (.iconst 0, 1) := by decide +kernel
theorem dX1_drawNeeds_28 : decode cX1_drawNeeds 28 = .ok (.istore_n 2, 1) := by decide +kernel
theorem dX1_drawNeeds_29 : decode cX1_drawNeeds 29 = .ok (.iload_n 2, 1) := by decide +kernel
theorem dX1_drawNeeds_30 : decode cX1_drawNeeds 30 = .ok (.aload_n 0, 1) := by decide +kernel
theorem dX1_drawNeeds_31 : decode cX1_drawNeeds 31 = .ok (.getfield 9, 3) := by decide +kernel
theorem dX1_drawNeeds_34 : decode cX1_drawNeeds 34 = .ok (.if_icmp .ge 53, 3) := by decide +kernel
theorem dX1_drawNeeds_37 : decode cX1_drawNeeds 37 = .ok (.aload_n 0, 1) := by decide +kernel
theorem dX1_drawNeeds_38 : decode cX1_drawNeeds 38 = .ok (.getfield 19, 3) := by decide +kernel
theorem dX1_drawNeeds_41 : decode cX1_drawNeeds 41 = .ok (.iload_n 2, 1) := by decide +kernel
theorem dX1_drawNeeds_42 : decode cX1_drawNeeds 42 = .ok (.iaload, 1) := by decide +kernel
theorem dX1_drawNeeds_43 : decode cX1_drawNeeds 43 = .ok (.istore_n 3, 1) := by decide +kernel
theorem dX1_drawNeeds_44 : decode cX1_drawNeeds 44 = .ok (.aload_n 0, 1) := by decide +kernel
theorem dX1_drawNeeds_45 : decode cX1_drawNeeds 45 = .ok (.getfield 22, 3) := by decide +kernel
theorem dX1_drawNeeds_48 : decode cX1_drawNeeds 48 = .ok (.iload_n 3, 1) := by decide +kernel
theorem dX1_drawNeeds_49 : decode cX1_drawNeeds 49 = .ok (.invokestatic 67, 3) := by decide +kernel
theorem dX1_drawNeeds_52 : decode cX1_drawNeeds 52 = .ok (.istore 4, 2) := by decide +kernel
theorem dX1_drawNeeds_54 : decode cX1_drawNeeds 54 = .ok (.aload_n 0, 1) := by decide +kernel
theorem dX1_drawNeeds_55 : decode cX1_drawNeeds 55 = .ok (.getfield 25, 3) := by decide +kernel
theorem dX1_drawNeeds_58 : decode cX1_drawNeeds 58 = .ok (.iload 4, 2) := by decide +kernel
theorem dX1_drawNeeds_60 : decode cX1_drawNeeds 60 = .ok (.aload_n 0, 1) := by decide +kernel
theorem dX1_drawNeeds_61 : decode cX1_drawNeeds 61 = .ok (.getfield 25, 3) := by decide +kernel
theorem dX1_drawNeeds_64 : decode cX1_drawNeeds 64 = .ok (.iload 4, 2) := by decide +kernel
theorem dX1_drawNeeds_66 : decode cX1_drawNeeds 66 = .ok (.invokestatic 67, 3) := by decide +kernel
theorem dX1_drawNeeds_69 : decode cX1_drawNeeds 69 = .ok (.aload_n 0, 1) := by decide +kernel
theorem dX1_drawNeeds_70 : decode cX1_drawNeeds 70 = .ok (.getfield 25, 3) := by decide +kernel
theorem dX1_drawNeeds_73 : decode cX1_drawNeeds 73 = .ok (.iload_n 3, 1) := by decide +kernel
theorem dX1_drawNeeds_74 : decode cX1_drawNeeds 74 = .ok (.invokestatic 67, 3) := by decide +kernel
theorem dX1_drawNeeds_77 : decode cX1_drawNeeds 77 = .ok (.iadd, 1) := by decide +kernel
theorem dX1_drawNeeds_78 : decode cX1_drawNeeds 78 = .ok (.invokestatic 47, 3) := by decide +kernel
theorem dX1_drawNeeds_81 : decode cX1_drawNeeds 81 = .ok (.iinc 2 1, 3) := by decide +kernel
theorem dX1_drawNeeds_84 : decode cX1_drawNeeds 84 = .ok (.goto (-55), 3) := by decide +kernel
theorem dX1_drawNeeds_87 : decode cX1_drawNeeds 87 = .ok (.return_, 1) := by decide +kernel
set_option maxRecDepth 20000 in
theorem ggX1_findPores_X0_bearablePores : GoodIn wsX1_findPores wsX0_bearablePores := goodIn_r _ [14, 15, 16, 17, 18, 19, 13, 20, 21, 22, 23, 24, 25, 26, 27, 28, 29, 37, 38, 39, 40, 41, 42, 43, 44, 45, 46] (by decide +kernel) (by decide +kernel)
set_option maxRecDepth 20000 in
theorem gX1_findPores_X0_bearablePores : GoodIn wsX1_findPores (wsV RX1 81 RX0 yX0_bearablePores wsX0_bearablePores) := goodIn_app (goodIn_of _ (by decide +kernel)) ggX1_findPores_X0_bearablePores
theorem dX1_findPores_0 : decode cX1_findPores 0 = .ok (.iconst 0, 1) := by decide +kernel
theorem dX1_findPores_1 : decode cX1_findPores 1 = .ok (.istore_n 2, 1) := by decide +kernel
theorem dX1_findPores_2 : decode cX1_findPores 2 = .ok (.iload_n 2, 1) := by decide +kernel
theorem dX1_findPores_3 : decode cX1_findPores 3 = .ok (.aload_n 0, 1) := by decide +kernel
theorem dX1_findPores_4 : decode cX1_findPores 4 = .ok (.getfield 9, 3) := by decide +kernel
theorem dX1_findPores_7 : decode cX1_findPores 7 = .ok (.if_icmp .ge 57, 3) := by decide +kernel
theorem dX1_findPores_10 : decode cX1_findPores 10 = .ok (.aload_n 0, 1) := by decide +kernel
theorem dX1_findPores_11 : decode cX1_findPores 11 = .ok (.getfield 28, 3) := by decide +kernel
theorem dX1_findPores_14 : decode cX1_findPores 14 = .ok (.iload_n 2, 1) := by decide +kernel
theorem dX1_findPores_15 : decode cX1_findPores 15 = .ok (.aload_n 0, 1) := by decide +kernel
theorem dX1_findPores_16 : decode cX1_findPores 16 = .ok (.getfield 22, 3) := by decide +kernel
theorem dX1_findPores_19 : decode cX1_findPores 19 = .ok (.iload_n 2, 1) := by decide +kernel
theorem dX1_findPores_20 : decode cX1_findPores 20 = .ok (.iaload, 1) := by decide +kernel
theorem dX1_findPores_21 : decode cX1_findPores 21 = .ok (.iconst (-1), 1) := by decide +kernel
theorem dX1_findPores_22 : decode cX1_findPores 22 = .ok (.if_icmp .ne 12, 3) := by decide +kernel
theorem dX1_findPores_25 : decode cX1_findPores 25 = .ok (.aload_n 0, 1) := by decide +kernel
theorem dX1_findPores_26 : decode cX1_findPores 26 = .ok (.getfield 25, 3) := by decide +kernel
theorem dX1_findPores_29 : decode cX1_findPores 29 = .ok (.iload_n 2, 1) := by decide +kernel
theorem dX1_findPores_30 : decode cX1_findPores 30 = .ok (.iaload, 1) := by decide +kernel
theorem dX1_findPores_31 : decode cX1_findPores 31 = .ok (.goto 4, 3) := by decide +kernel
theorem dX1_findPores_34 : decode cX1_findPores 34 = .ok (.iconst 0, 1) := by decide +kernel
theorem dX1_findPores_35 : decode cX1_findPores 35 = .ok (.iastore, 1) := by decide +kernel
theorem dX1_findPores_36 : decode cX1_findPores 36 = .ok (.aload_n 0, 1) := by decide +kernel
theorem dX1_findPores_37 : decode cX1_findPores 37 = .ok (.getfield 31, 3) := by decide +kernel
theorem dX1_findPores_40 : decode cX1_findPores 40 = .ok (.iload_n 2, 1) := by decide +kernel
theorem dX1_findPores_41 : decode cX1_findPores 41 = .ok (.iconst 0, 1) := by decide +kernel
theorem dX1_findPores_42 : decode cX1_findPores 42 = .ok (.aload_n 0, 1) := by decide +kernel
theorem dX1_findPores_43 : decode cX1_findPores 43 = .ok (.getfield 28, 3) := by decide +kernel
theorem dX1_findPores_46 : decode cX1_findPores 46 = .ok (.iload_n 2, 1) := by decide +kernel
theorem dX1_findPores_47 : decode cX1_findPores 47 = .ok (.iaload, 1) := by decide +kernel
theorem dX1_findPores_48 : decode cX1_findPores 48 = .ok (.aload_n 1, 1) := by decide +kernel
theorem dX1_findPores_49 : decode cX1_findPores 49 = .ok (.iload_n 2, 1) := by decide +kernel
theorem dX1_findPores_50 : decode cX1_findPores 50 = .ok (.invokevirtual 81, 3) := by decide +kernel
theorem dX1_findPores_53 : decode cX1_findPores 53 = .ok (.isub, 1) := by decide +kernel
theorem dX1_findPores_54 : decode cX1_findPores 54 = .ok (.invokestatic 84, 3) := by decide +kernel
theorem dX1_findPores_57 : decode cX1_findPores 57 = .ok (.iastore, 1) := by decide +kernel
theorem dX1_findPores_58 : decode cX1_findPores 58 = .ok (.iinc 2 1, 3) := by decide +kernel
theorem dX1_findPores_61 : decode cX1_findPores 61 = .ok (.goto (-59), 3) := by decide +kernel
theorem dX1_findPores_64 : decode cX1_findPores 64 = .ok (.return_, 1) := by decide +kernel
set_option maxRecDepth 20000 in
theorem ggX1_excessOfAll_X4_sum : GoodIn wsX1_excessOfAll wsX4_sum := goodIn_r _ [5] (by decide +kernel) (by decide +kernel)
set_option maxRecDepth 20000 in
theorem gX1_excessOfAll_X4_sum_n87 : GoodIn wsX1_excessOfAll (wsX4_sum) := ggX1_excessOfAll_X4_sum
theorem dX1_excessOfAll_0 : decode cX1_excessOfAll 0 = .ok (.aload_n 0, 1) := by decide +kernel
theorem dX1_excessOfAll_1 : decode cX1_excessOfAll 1 = .ok (.getfield 31, 3) := by decide +kernel
theorem dX1_excessOfAll_4 : decode cX1_excessOfAll 4 = .ok (.aload_n 0, 1) := by decide +kernel
theorem dX1_excessOfAll_5 : decode cX1_excessOfAll 5 = .ok (.getfield 9, 3) := by decide +kernel
theorem dX1_excessOfAll_8 : decode cX1_excessOfAll 8 = .ok (.invokestatic 87, 3) := by decide +kernel
theorem dX1_excessOfAll_11 : decode cX1_excessOfAll 11 = .ok (.ireturn, 1) := by decide +kernel
set_option maxRecDepth 20000 in
theorem ggX1_isSound_X1_excessOfAll : GoodIn wsX1_isSound wsX1_excessOfAll := goodIn_r _ [5, 6, 7, 8, 9, 10, 11, 12, 13, 14, 15, 16, 17] (by decide +kernel) (by decide +kernel)
set_option maxRecDepth 20000 in
theorem gX1_isSound_X1_excessOfAll : GoodIn wsX1_isSound (wsV RX1 90 RX1 yX1_excessOfAll wsX1_excessOfAll) := goodIn_app (goodIn_of _ (by decide +kernel)) ggX1_isSound_X1_excessOfAll
theorem dX1_isSound_0 : decode cX1_isSound 0 = .ok (.aload_n 0, 1) := by decide +kernel
theorem dX1_isSound_1 : decode cX1_isSound 1 = .ok (.invokevirtual 90, 3) := by decide +kernel
theorem dX1_isSound_4 : decode cX1_isSound 4 = .ok (.ifCond .ne 7, 3) := by decide +kernel
theorem dX1_isSound_7 : decode cX1_isSound 7 = .ok (.iconst 1, 1) := by decide +kernel
theorem dX1_isSound_8 : decode cX1_isSound 8 = .ok (.goto 4, 3) := by decide +kernel
theorem dX1_isSound_11 : decode cX1_isSound 11 = .ok (.iconst 0, 1) := by decide +kernel
theorem dX1_isSound_12 : decode cX1_isSound 12 = .ok (.ireturn, 1) := by decide +kernel
theorem dX1_fedBy_0 : decode cX1_fedBy 0 = .ok (.iconst 0, 1) := by decide +kernel
theorem dX1_fedBy_1 : decode cX1_fedBy 1 = .ok (.istore_n 2, 1) := by decide +kernel
theorem dX1_fedBy_2 : decode cX1_fedBy 2 = .ok (.iconst 0, 1) := by decide +kernel
theorem dX1_fedBy_3 : decode cX1_fedBy 3 = .ok (.istore_n 3, 1) := by decide +kernel
theorem dX1_fedBy_4 : decode cX1_fedBy 4 = .ok (.iload_n 3, 1) := by decide +kernel
theorem dX1_fedBy_5 : decode cX1_fedBy 5 = .ok (.aload_n 0, 1) := by decide +kernel
theorem dX1_fedBy_6 : decode cX1_fedBy 6 = .ok (.getfield 9, 3) := by decide +kernel
theorem dX1_fedBy_9 : decode cX1_fedBy 9 = .ok (.if_icmp .ge 22, 3) := by decide +kernel
theorem dX1_fedBy_12 : decode cX1_fedBy 12 = .ok (.aload_n 0, 1) := by decide +kernel
theorem dX1_fedBy_13 : decode cX1_fedBy 13 = .ok (.getfield 22, 3) := by decide +kernel
theorem dX1_fedBy_16 : decode cX1_fedBy 16 = .ok (.iload_n 3, 1) := by decide +kernel
theorem dX1_fedBy_17 : decode cX1_fedBy 17 = .ok (.iaload, 1) := by decide +kernel
theorem dX1_fedBy_18 : decode cX1_fedBy 18 = .ok (.iload_n 1, 1) := by decide +kernel
theorem dX1_fedBy_19 : decode cX1_fedBy 19 = .ok (.if_icmp .ne 6, 3) := by decide +kernel
theorem dX1_fedBy_22 : decode cX1_fedBy 22 = .ok (.iinc 2 1, 3) := by decide +kernel
theorem dX1_fedBy_25 : decode cX1_fedBy 25 = .ok (.iinc 3 1, 3) := by decide +kernel
theorem dX1_fedBy_28 : decode cX1_fedBy 28 = .ok (.goto (-24), 3) := by decide +kernel
theorem dX1_fedBy_31 : decode cX1_fedBy 31 = .ok (.iload_n 2, 1) := by decide +kernel
theorem dX1_fedBy_32 : decode cX1_fedBy 32 = .ok (.ireturn, 1) := by decide +kernel
set_option maxRecDepth 20000 in
theorem ggX1_hotSpotOf_X4_at : GoodIn wsX1_hotSpotOf wsX4_at := goodIn_r _ [5] (by decide +kernel) (by decide +kernel)
set_option maxRecDepth 20000 in
theorem gX1_hotSpotOf_X4_at_n67 : GoodIn wsX1_hotSpotOf (wsX4_at) := ggX1_hotSpotOf_X4_at
theorem dX1_hotSpotOf_0 : decode cX1_hotSpotOf 0 = .ok (.iload_n 1, 1) := by decide +kernel
theorem dX1_hotSpotOf_1 : decode cX1_hotSpotOf 1 = .ok (.istore_n 2, 1) := by decide +kernel
theorem dX1_hotSpotOf_2 : decode cX1_hotSpotOf 2 = .ok (.iconst 0, 1) := by decide +kernel
theorem dX1_hotSpotOf_3 : decode cX1_hotSpotOf 3 = .ok (.istore_n 3, 1) := by decide +kernel
theorem dX1_hotSpotOf_4 : decode cX1_hotSpotOf 4 = .ok (.iload_n 3, 1) := by decide +kernel
theorem dX1_hotSpotOf_5 : decode cX1_hotSpotOf 5 = .ok (.aload_n 0, 1) := by decide +kernel
theorem dX1_hotSpotOf_6 : decode cX1_hotSpotOf 6 = .ok (.getfield 9, 3) := by decide +kernel
theorem dX1_hotSpotOf_9 : decode cX1_hotSpotOf 9 = .ok (.if_icmp .ge 30, 3) := by decide +kernel
theorem dX1_hotSpotOf_12 : decode cX1_hotSpotOf 12 = .ok (.aload_n 0, 1) := by decide +kernel
theorem dX1_hotSpotOf_13 : decode cX1_hotSpotOf 13 = .ok (.getfield 22, 3) := by decide +kernel
theorem dX1_hotSpotOf_16 : decode cX1_hotSpotOf 16 = .ok (.iload_n 2, 1) := by decide +kernel
theorem dX1_hotSpotOf_17 : decode cX1_hotSpotOf 17 = .ok (.invokestatic 67, 3) := by decide +kernel
theorem dX1_hotSpotOf_20 : decode cX1_hotSpotOf 20 = .ok (.iconst (-1), 1) := by decide +kernel
theorem dX1_hotSpotOf_21 : decode cX1_hotSpotOf 21 = .ok (.if_icmp .eq 18, 3) := by decide +kernel
theorem dX1_hotSpotOf_24 : decode cX1_hotSpotOf 24 = .ok (.aload_n 0, 1) := by decide +kernel
theorem dX1_hotSpotOf_25 : decode cX1_hotSpotOf 25 = .ok (.getfield 22, 3) := by decide +kernel
theorem dX1_hotSpotOf_28 : decode cX1_hotSpotOf 28 = .ok (.iload_n 2, 1) := by decide +kernel
theorem dX1_hotSpotOf_29 : decode cX1_hotSpotOf 29 = .ok (.invokestatic 67, 3) := by decide +kernel
theorem dX1_hotSpotOf_32 : decode cX1_hotSpotOf 32 = .ok (.istore_n 2, 1) := by decide +kernel
theorem dX1_hotSpotOf_33 : decode cX1_hotSpotOf 33 = .ok (.iinc 3 1, 3) := by decide +kernel
theorem dX1_hotSpotOf_36 : decode cX1_hotSpotOf 36 = .ok (.goto (-32), 3) := by decide +kernel
theorem dX1_hotSpotOf_39 : decode cX1_hotSpotOf 39 = .ok (.iload_n 2, 1) := by decide +kernel
theorem dX1_hotSpotOf_40 : decode cX1_hotSpotOf 40 = .ok (.ireturn, 1) := by decide +kernel
