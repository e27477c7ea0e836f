set_option maxRecDepth 20000 in
theorem ggX4_init_X0_init : GoodIn wsX4_init wsX0_init := goodIn_r _ [23, 24, 2, 3, 25, 26, 27, 28, 29, 30, 31, 32, 33, 34, 35, 36, 62, 63, 64, 65, 66, 67, 68, 69, 70, 71] (by decide +kernel) (by decide +kernel)
set_option maxRecDepth 20000 in
theorem gX4_init_X0_init_n9 : GoodIn wsX4_init (wsX0_init) := ggX4_init_X0_init
set_option maxRecDepth 20000 in
theorem ggX4_init_X1_init : GoodIn wsX4_init wsX1_init := goodIn_r _ [38, 39, 2, 3, 40, 29, 41, 42, 43, 44, 45, 46, 78, 79, 80, 81, 82, 83, 84] (by decide +kernel) (by decide +kernel)
set_option maxRecDepth 20000 in
theorem gX4_init_X1_init_n18 : GoodIn wsX4_init (wsX1_init) := ggX4_init_X1_init
set_option maxRecDepth 20000 in
theorem ggX4_init_X2_init : GoodIn wsX4_init wsX2_init := goodIn_r _ [49, 50, 2, 3, 51, 52, 53, 5, 6, 22, 23, 24, 25, 26, 27, 28, 29, 30, 31, 32, 33, 34, 35, 36, 85, 86, 62, 63, 64, 65, 66, 67, 68, 69, 70, 71] (by decide +kernel) (by decide +kernel)
set_option maxRecDepth 20000 in
theorem gX4_init_X2_init : GoodIn wsX4_init (wsX2_init) := ggX4_init_X2_init
set_option maxRecDepth 20000 in
theorem ggX4_init_X3_init : GoodIn wsX4_init wsX3_init := goodIn_r _ [55, 56, 2, 3, 29, 57, 58, 59, 60, 61, 87, 88, 89, 90, 91] (by decide +kernel) (by decide +kernel)
set_option maxRecDepth 20000 in
theorem gX4_init_X3_init_n32 : GoodIn wsX4_init (wsX3_init) := ggX4_init_X3_init
theorem dX4_init_0 : decode cX4_init 0 = .ok (.aload_n 0, 1) := by decide +kernel
theorem dX4_init_1 : decode cX4_init 1 = .ok (.invokespecial 1, 3) := by decide +kernel
theorem dX4_init_4 : decode cX4_init 4 = .ok (.aload_n 0, 1) := by decide +kernel
theorem dX4_init_5 : decode cX4_init 5 = .ok (.new 7, 3) := by decide +kernel
theorem dX4_init_8 : decode cX4_init 8 = .ok (.dup, 1) := by decide +kernel
theorem dX4_init_9 : decode cX4_init 9 = .ok (.invokespecial 9, 3) := by decide +kernel
theorem dX4_init_12 : decode cX4_init 12 = .ok (.putfield 10, 3) := by decide +kernel
theorem dX4_init_15 : decode cX4_init 15 = .ok (.aload_n 0, 1) := by decide +kernel
theorem dX4_init_16 : decode cX4_init 16 = .ok (.new 16, 3) := by decide +kernel
theorem dX4_init_19 : decode cX4_init 19 = .ok (.dup, 1) := by decide +kernel
theorem dX4_init_20 : decode cX4_init 20 = .ok (.invokespecial 18, 3) := by decide +kernel
theorem dX4_init_23 : decode cX4_init 23 = .ok (.putfield 19, 3) := by decide +kernel
theorem dX4_init_26 : decode cX4_init 26 = .ok (.aload_n 0, 1) := by decide +kernel
theorem dX4_init_27 : decode cX4_init 27 = .ok (.new 23, 3) := by decide +kernel
theorem dX4_init_30 : decode cX4_init 30 = .ok (.dup, 1) := by decide +kernel
theorem dX4_init_31 : decode cX4_init 31 = .ok (.invokespecial 25, 3) := by decide +kernel
theorem dX4_init_34 : decode cX4_init 34 = .ok (.putfield 26, 3) := by decide +kernel
theorem dX4_init_37 : decode cX4_init 37 = .ok (.aload_n 0, 1) := by decide +kernel
theorem dX4_init_38 : decode cX4_init 38 = .ok (.new 30, 3) := by decide +kernel
theorem dX4_init_41 : decode cX4_init 41 = .ok (.dup, 1) := by decide +kernel
theorem dX4_init_42 : decode cX4_init 42 = .ok (.invokespecial 32, 3) := by decide +kernel
theorem dX4_init_45 : decode cX4_init 45 = .ok (.putfield 33, 3) := by decide +kernel
theorem dX4_init_48 : decode cX4_init 48 = .ok (.aload_n 0, 1) := by decide +kernel
theorem dX4_init_49 : decode cX4_init 49 = .ok (.new 7, 3) := by decide +kernel
theorem dX4_init_52 : decode cX4_init 52 = .ok (.dup, 1) := by decide +kernel
theorem dX4_init_53 : decode cX4_init 53 = .ok (.invokespecial 9, 3) := by decide +kernel
theorem dX4_init_56 : decode cX4_init 56 = .ok (.putfield 37, 3) := by decide +kernel
theorem dX4_init_59 : decode cX4_init 59 = .ok (.aload_n 0, 1) := by decide +kernel
theorem dX4_init_60 : decode cX4_init 60 = .ok (.new 16, 3) := by decide +kernel
theorem dX4_init_63 : decode cX4_init 63 = .ok (.dup, 1) := by decide +kernel
theorem dX4_init_64 : decode cX4_init 64 = .ok (.invokespecial 18, 3) := by decide +kernel
theorem dX4_init_67 : decode cX4_init 67 = .ok (.putfield 40, 3) := by decide +kernel
theorem dX4_init_70 : decode cX4_init 70 = .ok (.return_, 1) := by decide +kernel
set_option maxRecDepth 20000 in
theorem ggX4_addSection_X4_isSize : GoodIn wsX4_addSection wsX4_isSize := goodIn_r _ [7, 8, 9, 6, 10] (by decide +kernel) (by decide +kernel)
set_option maxRecDepth 20000 in
theorem gX4_addSection_X4_isSize : GoodIn wsX4_addSection (va_wsS RX4 43 yX4_isSize wsX4_isSize) := goodIn_app (goodIn_of _ (by decide +kernel)) ggX4_addSection_X4_isSize
set_option maxRecDepth 20000 in
theorem ggX4_addSection_X0_hasRoomForSection : GoodIn wsX4_addSection wsX0_hasRoomForSection := goodIn_r _ [15, 16, 122, 123, 124, 125, 126, 127, 128, 129, 130, 131] (by decide +kernel) (by decide +kernel)
set_option maxRecDepth 20000 in
theorem gX4_addSection_X0_hasRoomForSection : GoodIn wsX4_addSection (wsV RX4 47 RX0 yX0_hasRoomForSection wsX0_hasRoomForSection) := goodIn_app (goodIn_of _ (by decide +kernel)) ggX4_addSection_X0_hasRoomForSection
set_option maxRecDepth 20000 in
theorem ggX4_addSection_X2_keep : GoodIn wsX4_addSection wsX2_keep := goodIn_r _ [21, 22, 23, 24, 25, 26, 20, 27, 28, 29, 30, 31, 32, 33, 34, 14, 35, 16, 36, 37, 38, 39, 40, 41, 42, 43, 44, 132, 133, 122, 123, 124, 125, 126, 127, 128, 129, 130, 131] (by decide +kernel) (by decide +kernel)
set_option maxRecDepth 20000 in
theorem gX4_addSection_X2_keep : GoodIn wsX4_addSection (wsV RX4 51 RX2 yX2_keep wsX2_keep) := goodIn_app (goodIn_of _ (by decide +kernel)) ggX4_addSection_X2_keep
set_option maxRecDepth 20000 in
theorem ggX4_addSection_X0_append : GoodIn wsX4_addSection wsX0_append := goodIn_r _ [48, 16, 39, 40, 41, 42, 122, 123, 124, 125, 126, 127, 128, 129, 130, 131] (by decide +kernel) (by decide +kernel)
set_option maxRecDepth 20000 in
theorem gX4_addSection_X0_append : GoodIn wsX4_addSection (wsV RX4 55 RX0 yX0_append wsX0_append) := goodIn_app (goodIn_of _ (by decide +kernel)) ggX4_addSection_X0_append
set_option maxRecDepth 20000 in
theorem ggX4_addSection_X1_follow : GoodIn wsX4_addSection wsX1_follow := goodIn_r _ [53, 54, 55, 56, 57, 58, 59, 60, 61, 62, 63, 64, 14, 65, 39, 16, 66, 6, 67, 68, 69, 70, 71, 40, 41, 72, 73, 74, 75, 76, 52, 77, 78, 79, 80, 81, 82, 83, 84, 85, 86, 87, 88, 89, 90, 91, 92, 93, 94, 37, 95, 96, 97, 98, 99, 100, 101, 102, 103, 104, 105, 106, 107, 38, 108, 109, 110, 111, 42, 112, 113, 114, 115, 122, 123, 124, 125, 126, 127, 128, 129, 130, 131, 134, 135, 136, 137, 138, 139, 140] (by decide +kernel) (by decide +kernel)
set_option maxRecDepth 20000 in
theorem gX4_addSection_X1_follow : GoodIn wsX4_addSection (wsV RX4 59 RX1 yX1_follow wsX1_follow) := goodIn_app (goodIn_of _ (by decide +kernel)) ggX4_addSection_X1_follow
theorem dX4_addSection_0 : decode cX4_addSection 0 = .ok (.iload_n 1, 1) := by decide +kernel
theorem dX4_addSection_1 : decode cX4_addSection 1 = .ok (.invokestatic 43, 3) := by decide +kernel
theorem dX4_addSection_4 : decode cX4_addSection 4 = .ok (.ifCond .eq 10, 3) := by decide +kernel
theorem dX4_addSection_7 : decode cX4_addSection 7 = .ok (.iload_n 2, 1) := by decide +kernel
theorem dX4_addSection_8 : decode cX4_addSection 8 = .ok (.invokestatic 43, 3) := by decide +kernel
theorem dX4_addSection_11 : decode cX4_addSection 11 = .ok (.ifCond .ne 6, 3) := by decide +kernel
theorem dX4_addSection_14 : decode cX4_addSection 14 = .ok (.bipush (-3), 2) := by decide +kernel
theorem dX4_addSection_16 : decode cX4_addSection 16 = .ok (.ireturn, 1) := by decide +kernel
theorem dX4_addSection_17 : decode cX4_addSection 17 = .ok (.aload_n 0, 1) := by decide +kernel
theorem dX4_addSection_18 : decode cX4_addSection 18 = .ok (.getfield 10, 3) := by decide +kernel
theorem dX4_addSection_21 : decode cX4_addSection 21 = .ok (.invokevirtual 47, 3) := by decide +kernel
theorem dX4_addSection_24 : decode cX4_addSection 24 = .ok (.ifCond .ne 6, 3) := by decide +kernel
theorem dX4_addSection_27 : decode cX4_addSection 27 = .ok (.bipush (-5), 2) := by decide +kernel
theorem dX4_addSection_29 : decode cX4_addSection 29 = .ok (.ireturn, 1) := by decide +kernel
theorem dX4_addSection_30 : decode cX4_addSection 30 = .ok (.aload_n 0, 1) := by decide +kernel
theorem dX4_addSection_31 : decode cX4_addSection 31 = .ok (.getfield 26, 3) := by decide +kernel
theorem dX4_addSection_34 : decode cX4_addSection 34 = .ok (.aload_n 0, 1) := by decide +kernel
theorem dX4_addSection_35 : decode cX4_addSection 35 = .ok (.getfield 10, 3) := by decide +kernel
theorem dX4_addSection_38 : decode cX4_addSection 38 = .ok (.invokevirtual 51, 3) := by decide +kernel
theorem dX4_addSection_41 : decode cX4_addSection 41 = .ok (.aload_n 0, 1) := by decide +kernel
theorem dX4_addSection_42 : decode cX4_addSection 42 = .ok (.getfield 10, 3) := by decide +kernel
theorem dX4_addSection_45 : decode cX4_addSection 45 = .ok (.iload_n 1, 1) := by decide +kernel
theorem dX4_addSection_46 : decode cX4_addSection 46 = .ok (.iload_n 2, 1) := by decide +kernel
theorem dX4_addSection_47 : decode cX4_addSection 47 = .ok (.iconst 0, 1) := by decide +kernel
theorem dX4_addSection_48 : decode cX4_addSection 48 = .ok (.iload_n 3, 1) := by decide +kernel
theorem dX4_addSection_49 : decode cX4_addSection 49 = .ok (.invokevirtual 55, 3) := by decide +kernel
theorem dX4_addSection_52 : decode cX4_addSection 52 = .ok (.istore 4, 2) := by decide +kernel
theorem dX4_addSection_54 : decode cX4_addSection 54 = .ok (.aload_n 0, 1) := by decide +kernel
theorem dX4_addSection_55 : decode cX4_addSection 55 = .ok (.getfield 19, 3) := by decide +kernel
theorem dX4_addSection_58 : decode cX4_addSection 58 = .ok (.aload_n 0, 1) := by decide +kernel
theorem dX4_addSection_59 : decode cX4_addSection 59 = .ok (.getfield 10, 3) := by decide +kernel
theorem dX4_addSection_62 : decode cX4_addSection 62 = .ok (.invokevirtual 59, 3) := by decide +kernel
theorem dX4_addSection_65 : decode cX4_addSection 65 = .ok (.iload 4, 2) := by decide +kernel
theorem dX4_addSection_67 : decode cX4_addSection 67 = .ok (.ireturn, 1) := by decide +kernel
set_option maxRecDepth 20000 in
theorem ggX4_resize_X0_has : GoodIn wsX4_resize wsX0_has := goodIn_r _ [10, 11, 119, 120, 121, 122, 123, 124, 125, 126, 127, 128] (by decide +kernel) (by decide +kernel)
set_option maxRecDepth 20000 in
theorem gX4_resize_X0_has : GoodIn wsX4_resize (wsV RX4 62 RX0 yX0_has wsX0_has) := goodIn_app (goodIn_of _ (by decide +kernel)) ggX4_resize_X0_has
set_option maxRecDepth 20000 in
theorem ggX4_resize_X4_isSize : GoodIn wsX4_resize wsX4_isSize := goodIn_r _ [15, 16, 17, 14, 18] (by decide +kernel) (by decide +kernel)
set_option maxRecDepth 20000 in
theorem gX4_resize_X4_isSize : GoodIn wsX4_resize (va_wsS RX4 43 yX4_isSize wsX4_isSize) := goodIn_app (goodIn_of _ (by decide +kernel)) ggX4_resize_X4_isSize
set_option maxRecDepth 20000 in
theorem ggX4_resize_X2_keep : GoodIn wsX4_resize wsX2_keep := goodIn_r _ [23, 24, 25, 26, 27, 28, 22, 29, 30, 31, 32, 33, 34, 35, 36, 9, 37, 11, 38, 39, 40, 41, 42, 43, 44, 45, 46, 129, 130, 119, 120, 121, 122, 123, 124, 125, 126, 127, 128] (by decide +kernel) (by decide +kernel)
set_option maxRecDepth 20000 in
theorem gX4_resize_X2_keep : GoodIn wsX4_resize (wsV RX4 51 RX2 yX2_keep wsX2_keep) := goodIn_app (goodIn_of _ (by decide +kernel)) ggX4_resize_X2_keep
set_option maxRecDepth 20000 in
theorem ggX4_resize_X4_at : GoodIn wsX4_resize wsX4_at := goodIn_r _ [49] (by decide +kernel) (by decide +kernel)
set_option maxRecDepth 20000 in
theorem gX4_resize_X4_at : GoodIn wsX4_resize (va_wsS RX4 69 yX4_at wsX4_at) := goodIn_app (goodIn_of _ (by decide +kernel)) ggX4_resize_X4_at
set_option maxRecDepth 20000 in
theorem ggX4_resize_X4_put : GoodIn wsX4_resize wsX4_put := goodIn_r _ [52] (by decide +kernel) (by decide +kernel)
set_option maxRecDepth 20000 in
theorem gX4_resize_X4_put : GoodIn wsX4_resize (va_wsS RX4 73 yX4_put wsX4_put) := goodIn_app (goodIn_of _ (by decide +kernel)) ggX4_resize_X4_put
set_option maxRecDepth 20000 in
theorem ggX4_resize_X1_follow : GoodIn wsX4_resize wsX1_follow := goodIn_r _ [57, 58, 59, 60, 61, 62, 63, 64, 65, 66, 67, 68, 9, 69, 41, 11, 48, 14, 49, 70, 71, 72, 73, 42, 43, 51, 52, 74, 75, 76, 56, 77, 78, 79, 80, 81, 82, 83, 84, 85, 86, 87, 88, 89, 90, 91, 92, 93, 94, 39, 95, 96, 97, 98, 99, 100, 101, 102, 103, 104, 105, 106, 107, 40, 108, 109, 110, 111, 44, 112, 7, 8, 10, 119, 120, 121, 122, 123, 124, 125, 126, 127, 128, 131, 132, 133, 134, 135, 136, 137] (by decide +kernel) (by decide +kernel)
set_option maxRecDepth 20000 in
theorem gX4_resize_X1_follow : GoodIn wsX4_resize (wsV RX4 59 RX1 yX1_follow wsX1_follow) := goodIn_app (goodIn_of _ (by decide +kernel)) ggX4_resize_X1_follow
theorem dX4_resize_0 : decode cX4_resize 0 = .ok (.aload_n 0, 1) := by decide +kernel
theorem dX4_resize_1 : decode cX4_resize 1 = .ok (.getfield 10, 3) := by decide +kernel
theorem dX4_resize_4 : decode cX4_resize 4 = .ok (.iload_n 1, 1) := by decide +kernel
theorem dX4_resize_5 : decode cX4_resize 5 = .ok (.invokevirtual 62, 3) := by decide +kernel
theorem dX4_resize_8 : decode cX4_resize 8 = .ok (.ifCond .ne 6, 3) := by decide +kernel
theorem dX4_resize_11 : decode cX4_resize 11 = .ok (.bipush (-2), 2) := by decide +kernel
theorem dX4_resize_13 : decode cX4_resize 13 = .ok (.ireturn, 1) := by decide +kernel
theorem dX4_resize_14 : decode cX4_resize 14 = .ok (.iload_n 2, 1) := by decide +kernel
theorem dX4_resize_15 : decode cX4_resize 15 = .ok (.invokestatic 43, 3) := by decide +kernel
theorem dX4_resize_18 : decode cX4_resize 18 = .ok (.ifCond .eq 10, 3) := by decide +kernel
theorem dX4_resize_21 : decode cX4_resize 21 = .ok (.iload_n 3, 1) := by decide +kernel
theorem dX4_resize_22 : decode cX4_resize 22 = .ok (.invokestatic 43, 3) := by decide +kernel
theorem dX4_resize_25 : decode cX4_resize 25 = .ok (.ifCond .ne 6, 3) := by decide +kernel
theorem dX4_resize_28 : decode cX4_resize 28 = .ok (.bipush (-3), 2) := by decide +kernel
theorem dX4_resize_30 : decode cX4_resize 30 = .ok (.ireturn, 1) := by decide +kernel
theorem dX4_resize_31 : decode cX4_resize 31 = .ok (.aload_n 0, 1) := by decide +kernel
theorem dX4_resize_32 : decode cX4_resize 32 = .ok (.getfield 26, 3) := by decide +kernel
theorem dX4_resize_35 : decode cX4_resize 35 = .ok (.aload_n 0, 1) := by decide +kernel
theorem dX4_resize_36 : decode cX4_resize 36 = .ok (.getfield 10, 3) := by decide +kernel
theorem dX4_resize_39 : decode cX4_resize 39 = .ok (.invokevirtual 51, 3) := by decide +kernel
theorem dX4_resize_42 : decode cX4_resize 42 = .ok (.aload_n 0, 1) := by decide +kernel
theorem dX4_resize_43 : decode cX4_resize 43 = .ok (.getfield 10, 3) := by decide +kernel
theorem dX4_resize_46 : decode cX4_resize 46 = .ok (.getfield 65, 3) := by decide +kernel
theorem dX4_resize_49 : decode cX4_resize 49 = .ok (.iload_n 1, 1) := by decide +kernel
theorem dX4_resize_50 : decode cX4_resize 50 = .ok (.invokestatic 69, 3) := by decide +kernel
theorem dX4_resize_53 : decode cX4_resize 53 = .ok (.istore 4, 2) := by decide +kernel
theorem dX4_resize_55 : decode cX4_resize 55 = .ok (.aload_n 0, 1) := by decide +kernel
theorem dX4_resize_56 : decode cX4_resize 56 = .ok (.getfield 10, 3) := by decide +kernel
theorem dX4_resize_59 : decode cX4_resize 59 = .ok (.getfield 65, 3) := by decide +kernel
theorem dX4_resize_62 : decode cX4_resize 62 = .ok (.iload_n 1, 1) := by decide +kernel
theorem dX4_resize_63 : decode cX4_resize 63 = .ok (.iload_n 2, 1) := by decide +kernel
theorem dX4_resize_64 : decode cX4_resize 64 = .ok (.invokestatic 73, 3) := by decide +kernel
theorem dX4_resize_67 : decode cX4_resize 67 = .ok (.aload_n 0, 1) := by decide +kernel
theorem dX4_resize_68 : decode cX4_resize 68 = .ok (.getfield 10, 3) := by decide +kernel
theorem dX4_resize_71 : decode cX4_resize 71 = .ok (.getfield 77, 3) := by decide +kernel
theorem dX4_resize_74 : decode cX4_resize 74 = .ok (.iload_n 1, 1) := by decide +kernel
theorem dX4_resize_75 : decode cX4_resize 75 = .ok (.iload_n 3, 1) := by decide +kernel
theorem dX4_resize_76 : decode cX4_resize 76 = .ok (.invokestatic 73, 3) := by decide +kernel
theorem dX4_resize_79 : decode cX4_resize 79 = .ok (.aload_n 0, 1) := by decide +kernel
theorem dX4_resize_80 : decode cX4_resize 80 = .ok (.getfield 19, 3) := by decide +kernel
theorem dX4_resize_83 : decode cX4_resize 83 = .ok (.aload_n 0, 1) := by decide +kernel
theorem dX4_resize_84 : decode cX4_resize 84 = .ok (.getfield 10, 3) := by decide +kernel
theorem dX4_resize_87 : decode cX4_resize 87 = .ok (.invokevirtual 59, 3) := by decide +kernel
theorem dX4_resize_90 : decode cX4_resize 90 = .ok (.iload 4, 2) := by decide +kernel
theorem dX4_resize_92 : decode cX4_resize 92 = .ok (.ireturn, 1) := by decide +kernel
set_option maxRecDepth 20000 in
theorem ggX4_setChill_X0_has : GoodIn wsX4_setChill wsX0_has := goodIn_r _ [9, 10, 115, 116, 117, 118, 119, 120, 121, 122, 123, 124] (by decide +kernel) (by decide +kernel)
set_option maxRecDepth 20000 in
theorem gX4_setChill_X0_has : GoodIn wsX4_setChill (wsV RX4 62 RX0 yX0_has wsX0_has) := goodIn_app (goodIn_of _ (by decide +kernel)) ggX4_setChill_X0_has
set_option maxRecDepth 20000 in
theorem ggX4_setChill_X4_isWithin : GoodIn wsX4_setChill wsX4_isWithin := goodIn_r _ [14] (by decide +kernel) (by decide +kernel)
set_option maxRecDepth 20000 in
theorem gX4_setChill_X4_isWithin : GoodIn wsX4_setChill (va_wsS RX4 80 yX4_isWithin wsX4_isWithin) := goodIn_app (goodIn_of _ (by decide +kernel)) ggX4_setChill_X4_isWithin
set_option maxRecDepth 20000 in
theorem ggX4_setChill_X2_keep : GoodIn wsX4_setChill wsX2_keep := goodIn_r _ [19, 20, 21, 22, 23, 24, 18, 25, 26, 27, 28, 29, 30, 31, 32, 8, 33, 10, 34, 35, 36, 37, 38, 39, 40, 41, 42, 125, 126, 115, 116, 117, 118, 119, 120, 121, 122, 123, 124] (by decide +kernel) (by decide +kernel)
set_option maxRecDepth 20000 in
theorem gX4_setChill_X2_keep : GoodIn wsX4_setChill (wsV RX4 51 RX2 yX2_keep wsX2_keep) := goodIn_app (goodIn_of _ (by decide +kernel)) ggX4_setChill_X2_keep
set_option maxRecDepth 20000 in
theorem ggX4_setChill_X4_at : GoodIn wsX4_setChill wsX4_at := goodIn_r _ [45] (by decide +kernel) (by decide +kernel)
set_option maxRecDepth 20000 in
theorem gX4_setChill_X4_at : GoodIn wsX4_setChill (va_wsS RX4 69 yX4_at wsX4_at) := goodIn_app (goodIn_of _ (by decide +kernel)) ggX4_setChill_X4_at
set_option maxRecDepth 20000 in
theorem ggX4_setChill_X4_put : GoodIn wsX4_setChill wsX4_put := goodIn_r _ [48] (by decide +kernel) (by decide +kernel)
set_option maxRecDepth 20000 in
theorem gX4_setChill_X4_put : GoodIn wsX4_setChill (va_wsS RX4 73 yX4_put wsX4_put) := goodIn_app (goodIn_of _ (by decide +kernel)) ggX4_setChill_X4_put
set_option maxRecDepth 20000 in
theorem ggX4_setChill_X1_follow : GoodIn wsX4_setChill wsX1_follow := goodIn_r _ [53, 54, 55, 56, 57, 58, 59, 60, 61, 62, 63, 64, 8, 65, 37, 10, 44, 13, 45, 66, 67, 68, 69, 38, 39, 47, 48, 70, 71, 72, 52, 73, 74, 75, 76, 77, 78, 79, 80, 81, 82, 83, 84, 85, 86, 87, 88, 89, 90, 35, 91, 92, 93, 94, 95, 96, 97, 98, 99, 100, 101, 102, 103, 36, 104, 105, 106, 107, 40, 108, 6, 7, 9, 115, 116, 117, 118, 119, 120, 121, 122, 123, 124, 127, 128, 129, 130, 131, 132, 133] (by decide +kernel) (by decide +kernel)
set_option maxRecDepth 20000 in
theorem gX4_setChill_X1_follow : GoodIn wsX4_setChill (wsV RX4 59 RX1 yX1_follow wsX1_follow) := goodIn_app (goodIn_of _ (by decide +kernel)) ggX4_setChill_X1_follow
theorem dX4_setChill_0 : decode cX4_setChill 0 = .ok (.aload_n 0, 1) := by decide +kernel
theorem dX4_setChill_1 : decode cX4_setChill 1 = .ok (.getfield 10, 3) := by decide +kernel
theorem dX4_setChill_4 : decode cX4_setChill 4 = .ok (.iload_n 1, 1) := by decide +kernel
theorem dX4_setChill_5 : decode cX4_setChill 5 = .ok (.invokevirtual 62, 3) := by decide +kernel
theorem dX4_setChill_8 : decode cX4_setChill 8 = .ok (.ifCond .ne 6, 3) := by decide +kernel
theorem dX4_setChill_11 : decode cX4_setChill 11 = .ok (.bipush (-2), 2) := by decide +kernel
theorem dX4_setChill_13 : decode cX4_setChill 13 = .ok (.ireturn, 1) := by decide +kernel
theorem dX4_setChill_14 : decode cX4_setChill 14 = .ok (.iload_n 2, 1) := by decide +kernel
theorem dX4_setChill_15 : decode cX4_setChill 15 = .ok (.iconst 0, 1) := by decide +kernel
theorem dX4_setChill_16 : decode cX4_setChill 16 = .ok (.sipush 500, 3) := by decide +kernel
theorem dX4_setChill_19 : decode cX4_setChill 19 = .ok (.invokestatic 80, 3) := by decide +kernel
theorem dX4_setChill_22 : decode cX4_setChill 22 = .ok (.ifCond .ne 6, 3) := by decide +kernel
theorem dX4_setChill_25 : decode cX4_setChill 25 = .ok (.bipush (-3), 2) := by decide +kernel
theorem dX4_setChill_27 : decode cX4_setChill 27 = .ok (.ireturn, 1) := by decide +kernel
theorem dX4_setChill_28 : decode cX4_setChill 28 = .ok (.aload_n 0, 1) := by decide +kernel
theorem dX4_setChill_29 : decode cX4_setChill 29 = .ok (.getfield 26, 3) := by decide +kernel
theorem dX4_setChill_32 : decode cX4_setChill 32 = .ok (.aload_n 0, 1) := by decide +kernel
theorem dX4_setChill_33 : decode cX4_setChill 33 = .ok (.getfield 10, 3) := by decide +kernel
theorem dX4_setChill_36 : decode cX4_setChill 36 = .ok (.invokevirtual 51, 3) := by decide +kernel
theorem dX4_setChill_39 : decode cX4_setChill 39 = .ok (.aload_n 0, 1) := by decide +kernel
theorem dX4_setChill_40 : decode cX4_setChill 40 = .ok (.getfield 10, 3) := by decide +kernel
theorem dX4_setChill_43 : decode cX4_setChill 43 = .ok (.getfield 84, 3) := by decide +kernel
theorem dX4_setChill_46 : decode cX4_setChill 46 = .ok (.iload_n 1, 1) := by decide +kernel
theorem dX4_setChill_47 : decode cX4_setChill 47 = .ok (.invokestatic 69, 3) := by decide +kernel
theorem dX4_setChill_50 : decode cX4_setChill 50 = .ok (.istore_n 3, 1) := by decide +kernel
theorem dX4_setChill_51 : decode cX4_setChill 51 = .ok (.aload_n 0, 1) := by decide +kernel
theorem dX4_setChill_52 : decode cX4_setChill 52 = .ok (.getfield 10, 3) := by decide +kernel
theorem dX4_setChill_55 : decode cX4_setChill 55 = .ok (.getfield 84, 3) := by decide +kernel
theorem dX4_setChill_58 : decode cX4_setChill 58 = .ok (.iload_n 1, 1) := by decide +kernel
theorem dX4_setChill_59 : decode cX4_setChill 59 = .ok (.iload_n 2, 1) := by decide +kernel
theorem dX4_setChill_60 : decode cX4_setChill 60 = .ok (.invokestatic 73, 3) := by decide +kernel
theorem dX4_setChill_63 : decode cX4_setChill 63 = .ok (.aload_n 0, 1) := by decide +kernel
theorem dX4_setChill_64 : decode cX4_setChill 64 = .ok (.getfield 19, 3) := by decide +kernel
theorem dX4_setChill_67 : decode cX4_setChill 67 = .ok (.aload_n 0, 1) := by decide +kernel
theorem dX4_setChill_68 : decode cX4_setChill 68 = .ok (.getfield 10, 3) := by decide +kernel
theorem dX4_setChill_71 : decode cX4_setChill 71 = .ok (.invokevirtual 59, 3) := by decide +kernel
theorem dX4_setChill_74 : decode cX4_setChill 74 = .ok (.iload_n 3, 1) := by decide +kernel
theorem dX4_setChill_75 : decode cX4_setChill 75 = .ok (.ireturn, 1) := by decide +kernel
set_option maxRecDepth 20000 in
theorem ggX4_removeSection_X0_has : GoodIn wsX4_removeSection wsX0_has := goodIn_r _ [9, 10, 126, 127, 128, 129, 130, 131, 132, 133, 134, 135] (by decide +kernel) (by decide +kernel)
set_option maxRecDepth 20000 in
theorem gX4_removeSection_X0_has : GoodIn wsX4_removeSection (wsV RX4 62 RX0 yX0_has wsX0_has) := goodIn_app (goodIn_of _ (by decide +kernel)) ggX4_removeSection_X0_has
set_option maxRecDepth 20000 in
theorem ggX4_removeSection_X2_keep : GoodIn wsX4_removeSection wsX2_keep := goodIn_r _ [15, 16, 17, 18, 19, 20, 14, 21, 22, 23, 24, 25, 26, 27, 28, 8, 29, 10, 30, 31, 32, 33, 34, 35, 36, 37, 38, 136, 137, 126, 127, 128, 129, 130, 131, 132, 133, 134, 135] (by decide +kernel) (by decide +kernel)
set_option maxRecDepth 20000 in
theorem gX4_removeSection_X2_keep : GoodIn wsX4_removeSection (wsV RX4 51 RX2 yX2_keep wsX2_keep) := goodIn_app (goodIn_of _ (by decide +kernel)) ggX4_removeSection_X2_keep
set_option maxRecDepth 20000 in
theorem ggX4_removeSection_X0_drop : GoodIn wsX4_removeSection wsX0_drop := goodIn_r _ [42, 30, 37, 38, 43, 44, 45, 46, 33, 34, 35, 36, 10, 47, 48, 49, 8, 50, 51, 52, 53, 54, 55, 56, 57, 58, 59, 60, 61, 62, 126, 127, 128, 129, 130, 131, 132, 133, 134, 135] (by decide +kernel) (by decide +kernel)
set_option maxRecDepth 20000 in
theorem gX4_removeSection_X0_drop : GoodIn wsX4_removeSection (wsV RX4 87 RX0 yX0_drop wsX0_drop) := goodIn_app (goodIn_of _ (by decide +kernel)) ggX4_removeSection_X0_drop
set_option maxRecDepth 20000 in
theorem ggX4_removeSection_X1_follow : GoodIn wsX4_removeSection wsX1_follow := goodIn_r _ [67, 68, 69, 70, 45, 71, 72, 73, 74, 75, 76, 77, 8, 78, 33, 10, 51, 52, 53, 79, 80, 81, 82, 34, 35, 58, 59, 83, 84, 85, 66, 86, 87, 88, 89, 90, 91, 92, 93, 94, 95, 96, 97, 98, 99, 100, 101, 102, 103, 31, 104, 105, 106, 107, 108, 109, 110, 44, 46, 111, 112, 113, 114, 32, 115, 116, 117, 118, 36, 119, 6, 7, 9, 126, 127, 128, 129, 130, 131, 132, 133, 134, 135, 138, 139, 140, 141, 142, 143, 144] (by decide +kernel) (by decide +kernel)
set_option maxRecDepth 20000 in
theorem gX4_removeSection_X1_follow : GoodIn wsX4_removeSection (wsV RX4 59 RX1 yX1_follow wsX1_follow) := goodIn_app (goodIn_of _ (by decide +kernel)) ggX4_removeSection_X1_follow
theorem dX4_removeSection_0 : decode cX4_removeSection 0 = .ok (.aload_n 0, 1) := by decide +kernel
theorem dX4_removeSection_1 : decode cX4_removeSection 1 = .ok (.getfield 10, 3) := by decide +kernel
theorem dX4_removeSection_4 : decode cX4_removeSection 4 = .ok (.iload_n 1, 1) := by decide +kernel
theorem dX4_removeSection_5 : decode cX4_removeSection 5 = .ok (.invokevirtual 62, 3) := by decide +kernel
theorem dX4_removeSection_8 : decode cX4_removeSection 8 = .ok (.ifCond .ne 6, 3) := by decide +kernel
theorem dX4_removeSection_11 : decode cX4_removeSection 11 = .ok (.bipush (-2), 2) := by decide +kernel
theorem dX4_removeSection_13 : decode cX4_removeSection 13 = .ok (.ireturn, 1) := by decide +kernel
theorem dX4_removeSection_14 : decode cX4_removeSection 14 = .ok (.aload_n 0, 1) := by decide +kernel
theorem dX4_removeSection_15 : decode cX4_removeSection 15 = .ok (.getfield 26, 3) := by decide +kernel
theorem dX4_removeSection_18 : decode cX4_removeSection 18 = .ok (.aload_n 0, 1) := by decide +kernel
theorem dX4_removeSection_19 : decode cX4_removeSection 19 = .ok (.getfield 10, 3) := by decide +kernel
theorem dX4_removeSection_22 : decode cX4_removeSection 22 = .ok (.invokevirtual 51, 3) := by decide +kernel
theorem dX4_removeSection_25 : decode cX4_removeSection 25 = .ok (.aload_n 0, 1) := by decide +kernel
theorem dX4_removeSection_26 : decode cX4_removeSection 26 = .ok (.getfield 10, 3) := by decide +kernel
theorem dX4_removeSection_29 : decode cX4_removeSection 29 = .ok (.iload_n 1, 1) := by decide +kernel
theorem dX4_removeSection_30 : decode cX4_removeSection 30 = .ok (.invokevirtual 87, 3) := by decide +kernel
theorem dX4_removeSection_33 : decode cX4_removeSection 33 = .ok (.aload_n 0, 1) := by decide +kernel
theorem dX4_removeSection_34 : decode cX4_removeSection 34 = .ok (.getfield 19, 3) := by decide +kernel
theorem dX4_removeSection_37 : decode cX4_removeSection 37 = .ok (.aload_n 0, 1) := by decide +kernel
theorem dX4_removeSection_38 : decode cX4_removeSection 38 = .ok (.getfield 10, 3) := by decide +kernel
theorem dX4_removeSection_41 : decode cX4_removeSection 41 = .ok (.invokevirtual 59, 3) := by decide +kernel
theorem dX4_removeSection_44 : decode cX4_removeSection 44 = .ok (.aload_n 0, 1) := by decide +kernel
theorem dX4_removeSection_45 : decode cX4_removeSection 45 = .ok (.getfield 10, 3) := by decide +kernel
theorem dX4_removeSection_48 : decode cX4_removeSection 48 = .ok (.getfield 91, 3) := by decide +kernel
theorem dX4_removeSection_51 : decode cX4_removeSection 51 = .ok (.ireturn, 1) := by decide +kernel
set_option maxRecDepth 20000 in
theorem ggX4_join_X0_has : GoodIn wsX4_join wsX0_has := goodIn_r _ [8, 9, 125, 126, 127, 128, 129, 130, 131, 132, 133, 134] (by decide +kernel) (by decide +kernel)
set_option maxRecDepth 20000 in
theorem gX4_join_X0_has : GoodIn wsX4_join (wsV RX4 62 RX0 yX0_has wsX0_has) := goodIn_app (goodIn_of _ (by decide +kernel)) ggX4_join_X0_has
set_option maxRecDepth 20000 in
theorem ggX4_join_X0_canLink : GoodIn wsX4_join wsX0_canLink := goodIn_r _ [13, 14, 15, 16, 17, 7, 18, 19, 20, 21, 22, 23, 125, 126, 127, 128, 129, 130, 131, 132, 133, 134] (by decide +kernel) (by decide +kernel)
set_option maxRecDepth 20000 in
theorem gX4_join_X0_canLink : GoodIn wsX4_join (wsV RX4 95 RX0 yX0_canLink wsX0_canLink) := goodIn_app (goodIn_of _ (by decide +kernel)) ggX4_join_X0_canLink
set_option maxRecDepth 20000 in
theorem ggX4_join_X0_hasRoomForJoint : GoodIn wsX4_join wsX0_hasRoomForJoint := goodIn_r _ [27, 14, 125, 126, 127, 128, 129, 130, 131, 132, 133, 134] (by decide +kernel) (by decide +kernel)
set_option maxRecDepth 20000 in
theorem gX4_join_X0_hasRoomForJoint : GoodIn wsX4_join (wsV RX4 99 RX0 yX0_hasRoomForJoint wsX0_hasRoomForJoint) := goodIn_app (goodIn_of _ (by decide +kernel)) ggX4_join_X0_hasRoomForJoint
set_option maxRecDepth 20000 in
theorem ggX4_join_X2_keep : GoodIn wsX4_join wsX2_keep := goodIn_r _ [32, 33, 34, 35, 36, 37, 31, 38, 39, 40, 41, 42, 43, 44, 45, 7, 46, 9, 14, 47, 48, 49, 50, 51, 52, 19, 20, 135, 136, 125, 126, 127, 128, 129, 130, 131, 132, 133, 134] (by decide +kernel) (by decide +kernel)
set_option maxRecDepth 20000 in
theorem gX4_join_X2_keep : GoodIn wsX4_join (wsV RX4 51 RX2 yX2_keep wsX2_keep) := goodIn_app (goodIn_of _ (by decide +kernel)) ggX4_join_X2_keep
set_option maxRecDepth 20000 in
theorem ggX4_join_X0_link : GoodIn wsX4_join wsX0_link := goodIn_r _ [56, 14, 19, 20, 125, 126, 127, 128, 129, 130, 131, 132, 133, 134] (by decide +kernel) (by decide +kernel)
set_option maxRecDepth 20000 in
theorem gX4_join_X0_link : GoodIn wsX4_join (wsV RX4 102 RX0 yX0_link wsX0_link) := goodIn_app (goodIn_of _ (by decide +kernel)) ggX4_join_X0_link
set_option maxRecDepth 20000 in
theorem ggX4_join_X1_follow : GoodIn wsX4_join wsX1_follow := goodIn_r _ [61, 62, 63, 64, 65, 66, 67, 68, 69, 70, 71, 72, 7, 73, 49, 9, 21, 22, 23, 74, 75, 76, 77, 50, 51, 78, 79, 80, 81, 82, 60, 83, 84, 85, 86, 87, 88, 89, 90, 91, 92, 93, 94, 95, 96, 97, 98, 99, 100, 47, 101, 102, 103, 104, 105, 106, 107, 108, 109, 110, 111, 112, 113, 48, 114, 115, 116, 117, 52, 118, 5, 6, 8, 125, 126, 127, 128, 129, 130, 131, 132, 133, 134, 137, 138, 139, 140, 141, 142, 143] (by decide +kernel) (by decide +kernel)
set_option maxRecDepth 20000 in
theorem gX4_join_X1_follow : GoodIn wsX4_join (wsV RX4 59 RX1 yX1_follow wsX1_follow) := goodIn_app (goodIn_of _ (by decide +kernel)) ggX4_join_X1_follow
theorem dX4_join_0 : decode cX4_join 0 = .ok (.aload_n 0, 1) := by decide +kernel
theorem dX4_join_1 : decode cX4_join 1 = .ok (.getfield 10, 3) := by decide +kernel
theorem dX4_join_4 : decode cX4_join 4 = .ok (.iload_n 1, 1) := by decide +kernel
theorem dX4_join_5 : decode cX4_join 5 = .ok (.invokevirtual 62, 3) := by decide +kernel
theorem dX4_join_8 : decode cX4_join 8 = .ok (.ifCond .eq 14, 3) := by decide +kernel
theorem dX4_join_11 : decode cX4_join 11 = .ok (.aload_n 0, 1) := by decide +kernel
theorem dX4_join_12 : decode cX4_join 12 = .ok (.getfield 10, 3) := by decide +kernel
theorem dX4_join_15 : decode cX4_join 15 = .ok (.iload_n 2, 1) := by decide +kernel
theorem dX4_join_16 : decode cX4_join 16 = .ok (.invokevirtual 62, 3) := by decide +kernel
theorem dX4_join_19 : decode cX4_join 19 = .ok (.ifCond .ne 6, 3) := by decide +kernel
theorem dX4_join_22 : decode cX4_join 22 = .ok (.bipush (-2), 2) := by decide +kernel
theorem dX4_join_24 : decode cX4_join 24 = .ok (.ireturn, 1) := by decide +kernel
theorem dX4_join_25 : decode cX4_join 25 = .ok (.aload_n 0, 1) := by decide +kernel
theorem dX4_join_26 : decode cX4_join 26 = .ok (.getfield 10, 3) := by decide +kernel
theorem dX4_join_29 : decode cX4_join 29 = .ok (.iload_n 1, 1) := by decide +kernel
theorem dX4_join_30 : decode cX4_join 30 = .ok (.iload_n 2, 1) := by decide +kernel
theorem dX4_join_31 : decode cX4_join 31 = .ok (.invokevirtual 95, 3) := by decide +kernel
theorem dX4_join_34 : decode cX4_join 34 = .ok (.ifCond .ne 6, 3) := by decide +kernel
theorem dX4_join_37 : decode cX4_join 37 = .ok (.bipush (-4), 2) := by decide +kernel
theorem dX4_join_39 : decode cX4_join 39 = .ok (.ireturn, 1) := by decide +kernel
theorem dX4_join_40 : decode cX4_join 40 = .ok (.aload_n 0, 1) := by decide +kernel
theorem dX4_join_41 : decode cX4_join 41 = .ok (.getfield 10, 3) := by decide +kernel
theorem dX4_join_44 : decode cX4_join 44 = .ok (.invokevirtual 99, 3) := by decide +kernel
theorem dX4_join_47 : decode cX4_join 47 = .ok (.ifCond .ne 6, 3) := by decide +kernel
theorem dX4_join_50 : decode cX4_join 50 = .ok (.bipush (-5), 2) := by decide +kernel
theorem dX4_join_52 : decode cX4_join 52 = .ok (.ireturn, 1) := by decide +kernel
theorem dX4_join_53 : decode cX4_join 53 = .ok (.aload_n 0, 1) := by decide +kernel
theorem dX4_join_54 : decode cX4_join 54 = .ok (.getfield 26, 3) := by decide +kernel
theorem dX4_join_57 : decode cX4_join 57 = .ok (.aload_n 0, 1) := by decide +kernel
theorem dX4_join_58 : decode cX4_join 58 = .ok (.getfield 10, 3) := by decide +kernel
theorem dX4_join_61 : decode cX4_join 61 = .ok (.invokevirtual 51, 3) := by decide +kernel
theorem dX4_join_64 : decode cX4_join 64 = .ok (.aload_n 0, 1) := by decide +kernel
theorem dX4_join_65 : decode cX4_join 65 = .ok (.getfield 10, 3) := by decide +kernel
theorem dX4_join_68 : decode cX4_join 68 = .ok (.iload_n 1, 1) := by decide +kernel
theorem dX4_join_69 : decode cX4_join 69 = .ok (.iload_n 2, 1) := by decide +kernel
theorem dX4_join_70 : decode cX4_join 70 = .ok (.invokevirtual 102, 3) := by decide +kernel
theorem dX4_join_73 : decode cX4_join 73 = .ok (.istore_n 3, 1) := by decide +kernel
theorem dX4_join_74 : decode cX4_join 74 = .ok (.aload_n 0, 1) := by decide +kernel
theorem dX4_join_75 : decode cX4_join 75 = .ok (.getfield 19, 3) := by decide +kernel
theorem dX4_join_78 : decode cX4_join 78 = .ok (.aload_n 0, 1) := by decide +kernel
theorem dX4_join_79 : decode cX4_join 79 = .ok (.getfield 10, 3) := by decide +kernel
theorem dX4_join_82 : decode cX4_join 82 = .ok (.invokevirtual 59, 3) := by decide +kernel
theorem dX4_join_85 : decode cX4_join 85 = .ok (.iload_n 3, 1) := by decide +kernel
theorem dX4_join_86 : decode cX4_join 86 = .ok (.ireturn, 1) := by decide +kernel
set_option maxRecDepth 20000 in
theorem ggX4_part_X0_hasJoint : GoodIn wsX4_part wsX0_hasJoint := goodIn_r _ [9, 10, 118, 119, 120, 121, 122, 123, 124, 125, 126, 127] (by decide +kernel) (by decide +kernel)
set_option maxRecDepth 20000 in
theorem gX4_part_X0_hasJoint : GoodIn wsX4_part (wsV RX4 106 RX0 yX0_hasJoint wsX0_hasJoint) := goodIn_app (goodIn_of _ (by decide +kernel)) ggX4_part_X0_hasJoint
set_option maxRecDepth 20000 in
theorem ggX4_part_X2_keep : GoodIn wsX4_part wsX2_keep := goodIn_r _ [15, 16, 17, 18, 19, 20, 14, 21, 22, 23, 24, 25, 26, 27, 28, 8, 29, 30, 10, 31, 32, 33, 34, 35, 36, 37, 38, 128, 129, 118, 119, 120, 121, 122, 123, 124, 125, 126, 127] (by decide +kernel) (by decide +kernel)
set_option maxRecDepth 20000 in
theorem gX4_part_X2_keep : GoodIn wsX4_part (wsV RX4 51 RX2 yX2_keep wsX2_keep) := goodIn_app (goodIn_of _ (by decide +kernel)) ggX4_part_X2_keep
set_option maxRecDepth 20000 in
theorem ggX4_part_X0_unlink : GoodIn wsX4_part wsX0_unlink := goodIn_r _ [42, 43, 44, 45, 46, 10, 37, 38, 47, 48, 49, 50, 51, 118, 119, 120, 121, 122, 123, 124, 125, 126, 127] (by decide +kernel) (by decide +kernel)
set_option maxRecDepth 20000 in
theorem gX4_part_X0_unlink : GoodIn wsX4_part (wsV RX4 109 RX0 yX0_unlink wsX0_unlink) := goodIn_app (goodIn_of _ (by decide +kernel)) ggX4_part_X0_unlink
set_option maxRecDepth 20000 in
theorem ggX4_part_X1_follow : GoodIn wsX4_part wsX1_follow := goodIn_r _ [56, 57, 58, 59, 45, 60, 61, 62, 63, 64, 65, 66, 8, 67, 33, 30, 47, 48, 49, 68, 69, 70, 71, 34, 35, 50, 51, 72, 73, 74, 55, 75, 76, 77, 78, 79, 80, 81, 82, 83, 84, 85, 86, 87, 88, 89, 90, 91, 92, 31, 93, 94, 95, 96, 97, 98, 99, 44, 46, 100, 101, 102, 103, 32, 104, 105, 106, 107, 36, 108, 109, 110, 111, 118, 119, 120, 121, 122, 123, 124, 125, 126, 127, 130, 131, 132, 133, 134, 135, 136] (by decide +kernel) (by decide +kernel)
set_option maxRecDepth 20000 in
theorem gX4_part_X1_follow : GoodIn wsX4_part (wsV RX4 59 RX1 yX1_follow wsX1_follow) := goodIn_app (goodIn_of _ (by decide +kernel)) ggX4_part_X1_follow
theorem dX4_part_0 : decode cX4_part 0 = .ok (.aload_n 0, 1) := by decide +kernel
theorem dX4_part_1 : decode cX4_part 1 = .ok (.getfield 10, 3) := by decide +kernel
theorem dX4_part_4 : decode cX4_part 4 = .ok (.iload_n 1, 1) := by decide +kernel
theorem dX4_part_5 : decode cX4_part 5 = .ok (.invokevirtual 106, 3) := by decide +kernel
theorem dX4_part_8 : decode cX4_part 8 = .ok (.ifCond .ne 6, 3) := by decide +kernel
theorem dX4_part_11 : decode cX4_part 11 = .ok (.bipush (-2), 2) := by decide +kernel
theorem dX4_part_13 : decode cX4_part 13 = .ok (.ireturn, 1) := by decide +kernel
theorem dX4_part_14 : decode cX4_part 14 = .ok (.aload_n 0, 1) := by decide +kernel
theorem dX4_part_15 : decode cX4_part 15 = .ok (.getfield 26, 3) := by decide +kernel
theorem dX4_part_18 : decode cX4_part 18 = .ok (.aload_n 0, 1) := by decide +kernel
theorem dX4_part_19 : decode cX4_part 19 = .ok (.getfield 10, 3) := by decide +kernel
theorem dX4_part_22 : decode cX4_part 22 = .ok (.invokevirtual 51, 3) := by decide +kernel
theorem dX4_part_25 : decode cX4_part 25 = .ok (.aload_n 0, 1) := by decide +kernel
theorem dX4_part_26 : decode cX4_part 26 = .ok (.getfield 10, 3) := by decide +kernel
theorem dX4_part_29 : decode cX4_part 29 = .ok (.iload_n 1, 1) := by decide +kernel
theorem dX4_part_30 : decode cX4_part 30 = .ok (.invokevirtual 109, 3) := by decide +kernel
theorem dX4_part_33 : decode cX4_part 33 = .ok (.aload_n 0, 1) := by decide +kernel
theorem dX4_part_34 : decode cX4_part 34 = .ok (.getfield 19, 3) := by decide +kernel
theorem dX4_part_37 : decode cX4_part 37 = .ok (.aload_n 0, 1) := by decide +kernel
theorem dX4_part_38 : decode cX4_part 38 = .ok (.getfield 10, 3) := by decide +kernel
theorem dX4_part_41 : decode cX4_part 41 = .ok (.invokevirtual 59, 3) := by decide +kernel
theorem dX4_part_44 : decode cX4_part 44 = .ok (.aload_n 0, 1) := by decide +kernel
theorem dX4_part_45 : decode cX4_part 45 = .ok (.getfield 10, 3) := by decide +kernel
theorem dX4_part_48 : decode cX4_part 48 = .ok (.getfield 112, 3) := by decide +kernel
theorem dX4_part_51 : decode cX4_part 51 = .ok (.ireturn, 1) := by decide +kernel
set_option maxRecDepth 20000 in
theorem ggX4_setMetal_X4_isWithin : GoodIn wsX4_setMetal wsX4_isWithin := goodIn_r _ [9] (by decide +kernel) (by decide +kernel)
set_option maxRecDepth 20000 in
theorem gX4_setMetal_X4_isWithin : GoodIn wsX4_setMetal (va_wsS RX4 80 yX4_isWithin wsX4_isWithin) := goodIn_app (goodIn_of _ (by decide +kernel)) ggX4_setMetal_X4_isWithin
set_option maxRecDepth 20000 in
theorem ggX4_setMetal_X2_keep : GoodIn wsX4_setMetal wsX2_keep := goodIn_r _ [14, 15, 16, 17, 18, 19, 13, 20, 21, 22, 23, 24, 25, 26, 27, 28, 29, 30, 31, 32, 33, 34, 35, 36, 37, 38, 39, 123, 124, 113, 114, 115, 116, 117, 118, 119, 120, 121, 122] (by decide +kernel) (by decide +kernel)
set_option maxRecDepth 20000 in
theorem gX4_setMetal_X2_keep : GoodIn wsX4_setMetal (wsV RX4 51 RX2 yX2_keep wsX2_keep) := goodIn_app (goodIn_of _ (by decide +kernel)) ggX4_setMetal_X2_keep
set_option maxRecDepth 20000 in
theorem ggX4_setMetal_X1_follow : GoodIn wsX4_setMetal wsX1_follow := goodIn_r _ [44, 45, 46, 47, 48, 49, 50, 51, 52, 53, 54, 55, 28, 56, 34, 30, 57, 8, 58, 59, 60, 61, 62, 35, 36, 63, 64, 65, 66, 67, 43, 68, 69, 70, 71, 72, 73, 74, 75, 76, 77, 78, 79, 80, 81, 82, 83, 84, 85, 32, 86, 87, 88, 89, 90, 91, 92, 93, 94, 95, 96, 97, 98, 33, 99, 100, 101, 102, 37, 103, 104, 105, 106, 113, 114, 115, 116, 117, 118, 119, 120, 121, 122, 125, 126, 127, 128, 129, 130, 131] (by decide +kernel) (by decide +kernel)
set_option maxRecDepth 20000 in
theorem gX4_setMetal_X1_follow : GoodIn wsX4_setMetal (wsV RX4 59 RX1 yX1_follow wsX1_follow) := goodIn_app (goodIn_of _ (by decide +kernel)) ggX4_setMetal_X1_follow
theorem dX4_setMetal_0 : decode cX4_setMetal 0 = .ok (.iload_n 1, 1) := by decide +kernel
theorem dX4_setMetal_1 : decode cX4_setMetal 1 = .ok (.iconst 0, 1) := by decide +kernel
theorem dX4_setMetal_2 : decode cX4_setMetal 2 = .ok (.sipush 200, 3) := by decide +kernel
theorem dX4_setMetal_5 : decode cX4_setMetal 5 = .ok (.invokestatic 80, 3) := by decide +kernel
theorem dX4_setMetal_8 : decode cX4_setMetal 8 = .ok (.ifCond .eq 14, 3) := by decide +kernel
theorem dX4_setMetal_11 : decode cX4_setMetal 11 = .ok (.iload_n 2, 1) := by decide +kernel
theorem dX4_setMetal_12 : decode cX4_setMetal 12 = .ok (.iconst 0, 1) := by decide +kernel
theorem dX4_setMetal_13 : decode cX4_setMetal 13 = .ok (.sipush 500, 3) := by decide +kernel
theorem dX4_setMetal_16 : decode cX4_setMetal 16 = .ok (.invokestatic 80, 3) := by decide +kernel
theorem dX4_setMetal_19 : decode cX4_setMetal 19 = .ok (.ifCond .ne 6, 3) := by decide +kernel
theorem dX4_setMetal_22 : decode cX4_setMetal 22 = .ok (.bipush (-3), 2) := by decide +kernel
theorem dX4_setMetal_24 : decode cX4_setMetal 24 = .ok (.ireturn, 1) := by decide +kernel
theorem dX4_setMetal_25 : decode cX4_setMetal 25 = .ok (.aload_n 0, 1) := by decide +kernel
theorem dX4_setMetal_26 : decode cX4_setMetal 26 = .ok (.getfield 26, 3) := by decide +kernel
theorem dX4_setMetal_29 : decode cX4_setMetal 29 = .ok (.aload_n 0, 1) := by decide +kernel
theorem dX4_setMetal_30 : decode cX4_setMetal 30 = .ok (.getfield 10, 3) := by decide +kernel
theorem dX4_setMetal_33 : decode cX4_setMetal 33 = .ok (.invokevirtual 51, 3) := by decide +kernel
theorem dX4_setMetal_36 : decode cX4_setMetal 36 = .ok (.aload_n 0, 1) := by decide +kernel
theorem dX4_setMetal_37 : decode cX4_setMetal 37 = .ok (.getfield 10, 3) := by decide +kernel
theorem dX4_setMetal_40 : decode cX4_setMetal 40 = .ok (.getfield 115, 3) := by decide +kernel
theorem dX4_setMetal_43 : decode cX4_setMetal 43 = .ok (.istore_n 3, 1) := by decide +kernel
theorem dX4_setMetal_44 : decode cX4_setMetal 44 = .ok (.aload_n 0, 1) := by decide +kernel
theorem dX4_setMetal_45 : decode cX4_setMetal 45 = .ok (.getfield 10, 3) := by decide +kernel
theorem dX4_setMetal_48 : decode cX4_setMetal 48 = .ok (.iload_n 1, 1) := by decide +kernel
theorem dX4_setMetal_49 : decode cX4_setMetal 49 = .ok (.putfield 115, 3) := by decide +kernel
theorem dX4_setMetal_52 : decode cX4_setMetal 52 = .ok (.aload_n 0, 1) := by decide +kernel
theorem dX4_setMetal_53 : decode cX4_setMetal 53 = .ok (.getfield 10, 3) := by decide +kernel
theorem dX4_setMetal_56 : decode cX4_setMetal 56 = .ok (.iload_n 2, 1) := by decide +kernel
theorem dX4_setMetal_57 : decode cX4_setMetal 57 = .ok (.putfield 118, 3) := by decide +kernel
theorem dX4_setMetal_60 : decode cX4_setMetal 60 = .ok (.aload_n 0, 1) := by decide +kernel
theorem dX4_setMetal_61 : decode cX4_setMetal 61 = .ok (.getfield 19, 3) := by decide +kernel
theorem dX4_setMetal_64 : decode cX4_setMetal 64 = .ok (.aload_n 0, 1) := by decide +kernel
theorem dX4_setMetal_65 : decode cX4_setMetal 65 = .ok (.getfield 10, 3) := by decide +kernel
theorem dX4_setMetal_68 : decode cX4_setMetal 68 = .ok (.invokevirtual 59, 3) := by decide +kernel
theorem dX4_setMetal_71 : decode cX4_setMetal 71 = .ok (.iload_n 3, 1) := by decide +kernel
theorem dX4_setMetal_72 : decode cX4_setMetal 72 = .ok (.ireturn, 1) := by decide +kernel
set_option maxRecDepth 20000 in
theorem ggX4_count_X0_feeders : GoodIn wsX4_count wsX0_feeders := goodIn_r _ [12, 13, 14, 15, 16, 11, 17, 18, 19, 20, 21, 22, 57, 58, 59, 60, 61, 62, 63, 64, 65, 66] (by decide +kernel) (by decide +kernel)
set_option maxRecDepth 20000 in
theorem gX4_count_X0_feeders : GoodIn wsX4_count (wsV RX4 121 RX0 yX0_feeders wsX0_feeders) := goodIn_app (goodIn_of _ (by decide +kernel)) ggX4_count_X0_feeders
set_option maxRecDepth 20000 in
theorem ggX4_count_X1_fedBy : GoodIn wsX4_count wsX1_fedBy := goodIn_r _ [27, 28, 29, 67, 68, 69, 70, 71, 72, 73] (by decide +kernel) (by decide +kernel)
set_option maxRecDepth 20000 in
theorem gX4_count_X1_fedBy : GoodIn wsX4_count (wsV RX4 125 RX1 yX1_fedBy wsX1_fedBy) := goodIn_app (goodIn_of _ (by decide +kernel)) ggX4_count_X1_fedBy
set_option maxRecDepth 20000 in
theorem ggX4_count_X4_sum : GoodIn wsX4_count wsX4_sum := goodIn_r _ [33] (by decide +kernel) (by decide +kernel)
set_option maxRecDepth 20000 in
theorem gX4_count_X4_sum : GoodIn wsX4_count (va_wsS RX4 132 yX4_sum wsX4_sum) := goodIn_app (goodIn_of _ (by decide +kernel)) ggX4_count_X4_sum
set_option maxRecDepth 20000 in
theorem ggX4_count_X1_excessOfAll : GoodIn wsX4_count wsX1_excessOfAll := goodIn_r _ [37, 38, 28, 31, 32, 33, 67, 68, 69, 70, 71, 72, 73] (by decide +kernel) (by decide +kernel)
set_option maxRecDepth 20000 in
theorem gX4_count_X1_excessOfAll : GoodIn wsX4_count (wsV RX4 135 RX1 yX1_excessOfAll wsX1_excessOfAll) := goodIn_app (goodIn_of _ (by decide +kernel)) ggX4_count_X1_excessOfAll
set_option maxRecDepth 20000 in
theorem ggX4_count_X0_yieldPerMille : GoodIn wsX4_count wsX0_yieldPerMille := goodIn_r _ [42, 13, 43, 44, 32, 45, 14, 15, 16, 11, 17, 18, 19, 20, 21, 22, 57, 58, 59, 60, 61, 62, 63, 64, 65, 66] (by decide +kernel) (by decide +kernel)
set_option maxRecDepth 20000 in
theorem gX4_count_X0_yieldPerMille : GoodIn wsX4_count (wsV RX4 138 RX0 yX0_yieldPerMille wsX0_yieldPerMille) := goodIn_app (goodIn_of _ (by decide +kernel)) ggX4_count_X0_yieldPerMille
set_option maxRecDepth 20000 in
theorem ggX4_count_X1_isSound : GoodIn wsX4_count wsX1_isSound := goodIn_r _ [49, 50, 35, 36, 26, 37, 38, 28, 31, 32, 33, 67, 68, 69, 70, 71, 72, 73] (by decide +kernel) (by decide +kernel)
set_option maxRecDepth 20000 in
theorem gX4_count_X1_isSound : GoodIn wsX4_count (wsV RX4 141 RX1 yX1_isSound wsX1_isSound) := goodIn_app (goodIn_of _ (by decide +kernel)) ggX4_count_X1_isSound
theorem dX4_count_0 : decode cX4_count 0 = .ok (.iload_n 1, 1) := by decide +kernel
theorem dX4_count_1 : decode cX4_count 1 = .ok (.tableswitch 154 0 9 #[55, 63, 71, 79, 87, 95, 104, 122, 130, 138], 55) := by decide +kernel
theorem dX4_count_56 : decode cX4_count 56 = .ok (.aload_n 0, 1) := by decide +kernel
theorem dX4_count_57 : decode cX4_count 57 = .ok (.getfield 10, 3) := by decide +kernel
theorem dX4_count_60 : decode cX4_count 60 = .ok (.getfield 91, 3) := by decide +kernel
theorem dX4_count_63 : decode cX4_count 63 = .ok (.ireturn, 1) := by decide +kernel
theorem dX4_count_64 : decode cX4_count 64 = .ok (.aload_n 0, 1) := by decide +kernel
theorem dX4_count_65 : decode cX4_count 65 = .ok (.getfield 10, 3) := by decide +kernel
theorem dX4_count_68 : decode cX4_count 68 = .ok (.getfield 112, 3) := by decide +kernel
theorem dX4_count_71 : decode cX4_count 71 = .ok (.ireturn, 1) := by decide +kernel
theorem dX4_count_72 : decode cX4_count 72 = .ok (.aload_n 0, 1) := by decide +kernel
theorem dX4_count_73 : decode cX4_count 73 = .ok (.getfield 10, 3) := by decide +kernel
theorem dX4_count_76 : decode cX4_count 76 = .ok (.getfield 115, 3) := by decide +kernel
theorem dX4_count_79 : decode cX4_count 79 = .ok (.ireturn, 1) := by decide +kernel
theorem dX4_count_80 : decode cX4_count 80 = .ok (.aload_n 0, 1) := by decide +kernel
theorem dX4_count_81 : decode cX4_count 81 = .ok (.getfield 10, 3) := by decide +kernel
theorem dX4_count_84 : decode cX4_count 84 = .ok (.getfield 118, 3) := by decide +kernel
theorem dX4_count_87 : decode cX4_count 87 = .ok (.ireturn, 1) := by decide +kernel
theorem dX4_count_88 : decode cX4_count 88 = .ok (.aload_n 0, 1) := by decide +kernel
theorem dX4_count_89 : decode cX4_count 89 = .ok (.getfield 10, 3) := by decide +kernel
theorem dX4_count_92 : decode cX4_count 92 = .ok (.invokevirtual 121, 3) := by decide +kernel
theorem dX4_count_95 : decode cX4_count 95 = .ok (.ireturn, 1) := by decide +kernel
theorem dX4_count_96 : decode cX4_count 96 = .ok (.aload_n 0, 1) := by decide +kernel
theorem dX4_count_97 : decode cX4_count 97 = .ok (.getfield 19, 3) := by decide +kernel
theorem dX4_count_100 : decode cX4_count 100 = .ok (.iconst (-1), 1) := by decide +kernel
theorem dX4_count_101 : decode cX4_count 101 = .ok (.invokevirtual 125, 3) := by decide +kernel
theorem dX4_count_104 : decode cX4_count 104 = .ok (.ireturn, 1) := by decide +kernel
theorem dX4_count_105 : decode cX4_count 105 = .ok (.aload_n 0, 1) := by decide +kernel
theorem dX4_count_106 : decode cX4_count 106 = .ok (.getfield 19, 3) := by decide +kernel
theorem dX4_count_109 : decode cX4_count 109 = .ok (.getfield 129, 3) := by decide +kernel
theorem dX4_count_112 : decode cX4_count 112 = .ok (.aload_n 0, 1) := by decide +kernel
theorem dX4_count_113 : decode cX4_count 113 = .ok (.getfield 10, 3) := by decide +kernel
theorem dX4_count_116 : decode cX4_count 116 = .ok (.getfield 91, 3) := by decide +kernel
theorem dX4_count_119 : decode cX4_count 119 = .ok (.invokestatic 132, 3) := by decide +kernel
theorem dX4_count_122 : decode cX4_count 122 = .ok (.ireturn, 1) := by decide +kernel
theorem dX4_count_123 : decode cX4_count 123 = .ok (.aload_n 0, 1) := by decide +kernel
theorem dX4_count_124 : decode cX4_count 124 = .ok (.getfield 19, 3) := by decide +kernel
theorem dX4_count_127 : decode cX4_count 127 = .ok (.invokevirtual 135, 3) := by decide +kernel
theorem dX4_count_130 : decode cX4_count 130 = .ok (.ireturn, 1) := by decide +kernel
theorem dX4_count_131 : decode cX4_count 131 = .ok (.aload_n 0, 1) := by decide +kernel
theorem dX4_count_132 : decode cX4_count 132 = .ok (.getfield 10, 3) := by decide +kernel
theorem dX4_count_135 : decode cX4_count 135 = .ok (.invokevirtual 138, 3) := by decide +kernel
theorem dX4_count_138 : decode cX4_count 138 = .ok (.ireturn, 1) := by decide +kernel
theorem dX4_count_139 : decode cX4_count 139 = .ok (.aload_n 0, 1) := by decide +kernel
theorem dX4_count_140 : decode cX4_count 140 = .ok (.getfield 19, 3) := by decide +kernel
theorem dX4_count_143 : decode cX4_count 143 = .ok (.invokevirtual 141, 3) := by decide +kernel
theorem dX4_count_146 : decode cX4_count 146 = .ok (.ifCond .eq 7, 3) := by decide +kernel
theorem dX4_count_149 : decode cX4_count 149 = .ok (.iconst 1, 1) := by decide +kernel
theorem dX4_count_150 : decode cX4_count 150 = .ok (.goto 4, 3) := by decide +kernel
theorem dX4_count_153 : decode cX4_count 153 = .ok (.iconst 0, 1) := by decide +kernel
theorem dX4_count_154 : decode cX4_count 154 = .ok (.ireturn, 1) := by decide +kernel
theorem dX4_count_155 : decode cX4_count 155 = .ok (.bipush (-3), 2) := by decide +kernel
theorem dX4_count_157 : decode cX4_count 157 = .ok (.ireturn, 1) := by decide +kernel
set_option maxRecDepth 20000 in
theorem ggX4_section_X0_has : GoodIn wsX4_section wsX0_has := goodIn_r _ [15, 16, 51, 52, 53, 54, 55, 56, 57, 58, 59, 60] (by decide +kernel) (by decide +kernel)
set_option maxRecDepth 20000 in
theorem gX4_section_X0_has : GoodIn wsX4_section (wsV RX4 62 RX0 yX0_has wsX0_has) := goodIn_app (goodIn_of _ (by decide +kernel)) ggX4_section_X0_has
set_option maxRecDepth 20000 in
theorem ggX4_section_X4_at : GoodIn wsX4_section wsX4_at := goodIn_r _ [20] (by decide +kernel) (by decide +kernel)
set_option maxRecDepth 20000 in
theorem gX4_section_X4_at : GoodIn wsX4_section (va_wsS RX4 69 yX4_at wsX4_at) := goodIn_app (goodIn_of _ (by decide +kernel)) ggX4_section_X4_at
set_option maxRecDepth 20000 in
theorem ggX4_section_X0_isFeeder : GoodIn wsX4_section wsX0_isFeeder := goodIn_r _ [24, 25, 26, 12, 13, 14, 15, 16, 51, 52, 53, 54, 55, 56, 57, 58, 59, 60] (by decide +kernel) (by decide +kernel)
set_option maxRecDepth 20000 in
theorem gX4_section_X0_isFeeder : GoodIn wsX4_section (wsV RX4 144 RX0 yX0_isFeeder wsX0_isFeeder) := goodIn_app (goodIn_of _ (by decide +kernel)) ggX4_section_X0_isFeeder
set_option maxRecDepth 20000 in
theorem ggX4_section_X1_fedBy : GoodIn wsX4_section wsX1_fedBy := goodIn_r _ [31, 32, 33, 61, 62, 63, 64, 65, 66, 67] (by decide +kernel) (by decide +kernel)
set_option maxRecDepth 20000 in
theorem gX4_section_X1_fedBy : GoodIn wsX4_section (wsV RX4 125 RX1 yX1_fedBy wsX1_fedBy) := goodIn_app (goodIn_of _ (by decide +kernel)) ggX4_section_X1_fedBy
set_option maxRecDepth 20000 in
theorem ggX4_section_X0_neighbours : GoodIn wsX4_section wsX0_neighbours := goodIn_r _ [37, 38, 39, 40, 41, 14, 42, 43, 44, 18, 19, 20, 51, 52, 53, 54, 55, 56, 57, 58, 59, 60] (by decide +kernel) (by decide +kernel)
set_option maxRecDepth 20000 in
theorem gX4_section_X0_neighbours : GoodIn wsX4_section (wsV RX4 159 RX0 yX0_neighbours wsX0_neighbours) := goodIn_app (goodIn_of _ (by decide +kernel)) ggX4_section_X0_neighbours
theorem dX4_section_0 : decode cX4_section 0 = .ok (.aload_n 0, 1) := by decide +kernel
theorem dX4_section_1 : decode cX4_section 1 = .ok (.getfield 10, 3) := by decide +kernel
theorem dX4_section_4 : decode cX4_section 4 = .ok (.iload_n 1, 1) := by decide +kernel
theorem dX4_section_5 : decode cX4_section 5 = .ok (.invokevirtual 62, 3) := by decide +kernel
theorem dX4_section_8 : decode cX4_section 8 = .ok (.ifCond .ne 6, 3) := by decide +kernel
theorem dX4_section_11 : decode cX4_section 11 = .ok (.bipush (-2), 2) := by decide +kernel
theorem dX4_section_13 : decode cX4_section 13 = .ok (.ireturn, 1) := by decide +kernel
theorem dX4_section_14 : decode cX4_section 14 = .ok (.iload_n 2, 1) := by decide +kernel
theorem dX4_section_15 : decode cX4_section 15 = .ok (.tableswitch 188 0 10 #[57, 69, 81, 93, 110, 122, 134, 146, 158, 170, 179], 57) := by decide +kernel
theorem dX4_section_72 : decode cX4_section 72 = .ok (.aload_n 0, 1) := by decide +kernel
theorem dX4_section_73 : decode cX4_section 73 = .ok (.getfield 10, 3) := by decide +kernel
theorem dX4_section_76 : decode cX4_section 76 = .ok (.getfield 65, 3) := by decide +kernel
theorem dX4_section_79 : decode cX4_section 79 = .ok (.iload_n 1, 1) := by decide +kernel
theorem dX4_section_80 : decode cX4_section 80 = .ok (.invokestatic 69, 3) := by decide +kernel
theorem dX4_section_83 : decode cX4_section 83 = .ok (.ireturn, 1) := by decide +kernel
theorem dX4_section_84 : decode cX4_section 84 = .ok (.aload_n 0, 1) := by decide +kernel
theorem dX4_section_85 : decode cX4_section 85 = .ok (.getfield 10, 3) := by decide +kernel
theorem dX4_section_88 : decode cX4_section 88 = .ok (.getfield 77, 3) := by decide +kernel
theorem dX4_section_91 : decode cX4_section 91 = .ok (.iload_n 1, 1) := by decide +kernel
theorem dX4_section_92 : decode cX4_section 92 = .ok (.invokestatic 69, 3) := by decide +kernel
theorem dX4_section_95 : decode cX4_section 95 = .ok (.ireturn, 1) := by decide +kernel
theorem dX4_section_96 : decode cX4_section 96 = .ok (.aload_n 0, 1) := by decide +kernel
theorem dX4_section_97 : decode cX4_section 97 = .ok (.getfield 10, 3) := by decide +kernel
theorem dX4_section_100 : decode cX4_section 100 = .ok (.getfield 84, 3) := by decide +kernel
theorem dX4_section_103 : decode cX4_section 103 = .ok (.iload_n 1, 1) := by decide +kernel
theorem dX4_section_104 : decode cX4_section 104 = .ok (.invokestatic 69, 3) := by decide +kernel
theorem dX4_section_107 : decode cX4_section 107 = .ok (.ireturn, 1) := by decide +kernel
theorem dX4_section_108 : decode cX4_section 108 = .ok (.aload_n 0, 1) := by decide +kernel
theorem dX4_section_109 : decode cX4_section 109 = .ok (.getfield 10, 3) := by decide +kernel
theorem dX4_section_112 : decode cX4_section 112 = .ok (.iload_n 1, 1) := by decide +kernel
theorem dX4_section_113 : decode cX4_section 113 = .ok (.invokevirtual 144, 3) := by decide +kernel
theorem dX4_section_116 : decode cX4_section 116 = .ok (.ifCond .eq 7, 3) := by decide +kernel
theorem dX4_section_119 : decode cX4_section 119 = .ok (.iconst 1, 1) := by decide +kernel
theorem dX4_section_120 : decode cX4_section 120 = .ok (.goto 4, 3) := by decide +kernel
theorem dX4_section_123 : decode cX4_section 123 = .ok (.iconst 0, 1) := by decide +kernel
theorem dX4_section_124 : decode cX4_section 124 = .ok (.ireturn, 1) := by decide +kernel
theorem dX4_section_125 : decode cX4_section 125 = .ok (.aload_n 0, 1) := by decide +kernel
theorem dX4_section_126 : decode cX4_section 126 = .ok (.getfield 19, 3) := by decide +kernel
theorem dX4_section_129 : decode cX4_section 129 = .ok (.getfield 147, 3) := by decide +kernel
theorem dX4_section_132 : decode cX4_section 132 = .ok (.iload_n 1, 1) := by decide +kernel
theorem dX4_section_133 : decode cX4_section 133 = .ok (.invokestatic 69, 3) := by decide +kernel
theorem dX4_section_136 : decode cX4_section 136 = .ok (.ireturn, 1) := by decide +kernel
theorem dX4_section_137 : decode cX4_section 137 = .ok (.aload_n 0, 1) := by decide +kernel
theorem dX4_section_138 : decode cX4_section 138 = .ok (.getfield 19, 3) := by decide +kernel
theorem dX4_section_141 : decode cX4_section 141 = .ok (.getfield 150, 3) := by decide +kernel
theorem dX4_section_144 : decode cX4_section 144 = .ok (.iload_n 1, 1) := by decide +kernel
theorem dX4_section_145 : decode cX4_section 145 = .ok (.invokestatic 69, 3) := by decide +kernel
theorem dX4_section_148 : decode cX4_section 148 = .ok (.ireturn, 1) := by decide +kernel
theorem dX4_section_149 : decode cX4_section 149 = .ok (.aload_n 0, 1) := by decide +kernel
theorem dX4_section_150 : decode cX4_section 150 = .ok (.getfield 19, 3) := by decide +kernel
theorem dX4_section_153 : decode cX4_section 153 = .ok (.getfield 129, 3) := by decide +kernel
theorem dX4_section_156 : decode cX4_section 156 = .ok (.iload_n 1, 1) := by decide +kernel
theorem dX4_section_157 : decode cX4_section 157 = .ok (.invokestatic 69, 3) := by decide +kernel
theorem dX4_section_160 : decode cX4_section 160 = .ok (.ireturn, 1) := by decide +kernel
theorem dX4_section_161 : decode cX4_section 161 = .ok (.aload_n 0, 1) := by decide +kernel
theorem dX4_section_162 : decode cX4_section 162 = .ok (.getfield 19, 3) := by decide +kernel
theorem dX4_section_165 : decode cX4_section 165 = .ok (.getfield 153, 3) := by decide +kernel
theorem dX4_section_168 : decode cX4_section 168 = .ok (.iload_n 1, 1) := by decide +kernel
theorem dX4_section_169 : decode cX4_section 169 = .ok (.invokestatic 69, 3) := by decide +kernel
theorem dX4_section_172 : decode cX4_section 172 = .ok (.ireturn, 1) := by decide +kernel
theorem dX4_section_173 : decode cX4_section 173 = .ok (.aload_n 0, 1) := by decide +kernel
theorem dX4_section_174 : decode cX4_section 174 = .ok (.getfield 19, 3) := by decide +kernel
theorem dX4_section_177 : decode cX4_section 177 = .ok (.getfield 156, 3) := by decide +kernel
theorem dX4_section_180 : decode cX4_section 180 = .ok (.iload_n 1, 1) := by decide +kernel
theorem dX4_section_181 : decode cX4_section 181 = .ok (.invokestatic 69, 3) := by decide +kernel
theorem dX4_section_184 : decode cX4_section 184 = .ok (.ireturn, 1) := by decide +kernel
theorem dX4_section_185 : decode cX4_section 185 = .ok (.aload_n 0, 1) := by decide +kernel
theorem dX4_section_186 : decode cX4_section 186 = .ok (.getfield 19, 3) := by decide +kernel
theorem dX4_section_189 : decode cX4_section 189 = .ok (.iload_n 1, 1) := by decide +kernel
theorem dX4_section_190 : decode cX4_section 190 = .ok (.invokevirtual 125, 3) := by decide +kernel
theorem dX4_section_193 : decode cX4_section 193 = .ok (.ireturn, 1) := by decide +kernel
theorem dX4_section_194 : decode cX4_section 194 = .ok (.aload_n 0, 1) := by decide +kernel
theorem dX4_section_195 : decode cX4_section 195 = .ok (.getfield 10, 3) := by decide +kernel
theorem dX4_section_198 : decode cX4_section 198 = .ok (.iload_n 1, 1) := by decide +kernel
theorem dX4_section_199 : decode cX4_section 199 = .ok (.invokevirtual 159, 3) := by decide +kernel
theorem dX4_section_202 : decode cX4_section 202 = .ok (.ireturn, 1) := by decide +kernel
theorem dX4_section_203 : decode cX4_section 203 = .ok (.bipush (-3), 2) := by decide +kernel
theorem dX4_section_205 : decode cX4_section 205 = .ok (.ireturn, 1) := by decide +kernel
set_option maxRecDepth 20000 in
theorem ggX4_modulus_X0_has : GoodIn wsX4_modulus wsX0_has := goodIn_r _ [7, 8, 28, 29, 30, 31, 32, 33, 34, 35, 36, 37] (by decide +kernel) (by decide +kernel)
set_option maxRecDepth 20000 in
theorem gX4_modulus_X0_has : GoodIn wsX4_modulus (wsV RX4 62 RX0 yX0_has wsX0_has) := goodIn_app (goodIn_of _ (by decide +kernel)) ggX4_modulus_X0_has
set_option maxRecDepth 20000 in
theorem ggX4_modulus_X4_at : GoodIn wsX4_modulus wsX4_at := goodIn_r _ [12] (by decide +kernel) (by decide +kernel)
set_option maxRecDepth 20000 in
theorem gX4_modulus_X4_at : GoodIn wsX4_modulus (va_wsS RX4 69 yX4_at wsX4_at) := goodIn_app (goodIn_of _ (by decide +kernel)) ggX4_modulus_X4_at
set_option maxRecDepth 20000 in
theorem ggX4_modulus_X0_cooledArea : GoodIn wsX4_modulus wsX0_cooledArea := goodIn_r _ [16, 17, 18, 10, 11, 12, 28, 29, 30, 31, 32, 33, 34, 35, 36, 37] (by decide +kernel) (by decide +kernel)
set_option maxRecDepth 20000 in
theorem gX4_modulus_X0_cooledArea : GoodIn wsX4_modulus (wsV RX4 162 RX0 yX0_cooledArea wsX0_cooledArea) := goodIn_app (goodIn_of _ (by decide +kernel)) ggX4_modulus_X0_cooledArea
set_option maxRecDepth 20000 in
theorem ggX4_modulus_X4_commonDivisor : GoodIn wsX4_modulus wsX4_commonDivisor := goodIn_r _ [21] (by decide +kernel) (by decide +kernel)
set_option maxRecDepth 20000 in
theorem gX4_modulus_X4_commonDivisor : GoodIn wsX4_modulus (va_wsS RX4 165 yX4_commonDivisor wsX4_commonDivisor) := goodIn_app (goodIn_of _ (by decide +kernel)) ggX4_modulus_X4_commonDivisor
theorem dX4_modulus_0 : decode cX4_modulus 0 = .ok (.aload_n 0, 1) := by decide +kernel
theorem dX4_modulus_1 : decode cX4_modulus 1 = .ok (.getfield 10, 3) := by decide +kernel
theorem dX4_modulus_4 : decode cX4_modulus 4 = .ok (.iload_n 1, 1) := by decide +kernel
theorem dX4_modulus_5 : decode cX4_modulus 5 = .ok (.invokevirtual 62, 3) := by decide +kernel
theorem dX4_modulus_8 : decode cX4_modulus 8 = .ok (.ifCond .ne 6, 3) := by decide +kernel
theorem dX4_modulus_11 : decode cX4_modulus 11 = .ok (.bipush (-2), 2) := by decide +kernel
theorem dX4_modulus_13 : decode cX4_modulus 13 = .ok (.ireturn, 1) := by decide +kernel
theorem dX4_modulus_14 : decode cX4_modulus 14 = .ok (.aload_n 0, 1) := by decide +kernel
theorem dX4_modulus_15 : decode cX4_modulus 15 = .ok (.getfield 10, 3) := by decide +kernel
theorem dX4_modulus_18 : decode cX4_modulus 18 = .ok (.getfield 65, 3) := by decide +kernel
theorem dX4_modulus_21 : decode cX4_modulus 21 = .ok (.iload_n 1, 1) := by decide +kernel
theorem dX4_modulus_22 : decode cX4_modulus 22 = .ok (.invokestatic 69, 3) := by decide +kernel
theorem dX4_modulus_25 : decode cX4_modulus 25 = .ok (.istore_n 3, 1) := by decide +kernel
theorem dX4_modulus_26 : decode cX4_modulus 26 = .ok (.aload_n 0, 1) := by decide +kernel
theorem dX4_modulus_27 : decode cX4_modulus 27 = .ok (.getfield 10, 3) := by decide +kernel
theorem dX4_modulus_30 : decode cX4_modulus 30 = .ok (.iload_n 1, 1) := by decide +kernel
theorem dX4_modulus_31 : decode cX4_modulus 31 = .ok (.invokevirtual 162, 3) := by decide +kernel
theorem dX4_modulus_34 : decode cX4_modulus 34 = .ok (.istore 4, 2) := by decide +kernel
theorem dX4_modulus_36 : decode cX4_modulus 36 = .ok (.iload_n 3, 1) := by decide +kernel
theorem dX4_modulus_37 : decode cX4_modulus 37 = .ok (.iload 4, 2) := by decide +kernel
theorem dX4_modulus_39 : decode cX4_modulus 39 = .ok (.invokestatic 165, 3) := by decide +kernel
theorem dX4_modulus_42 : decode cX4_modulus 42 = .ok (.istore 5, 2) := by decide +kernel
theorem dX4_modulus_44 : decode cX4_modulus 44 = .ok (.iload_n 2, 1) := by decide +kernel
theorem dX4_modulus_45 : decode cX4_modulus 45 = .ok (.ifCond .eq 8, 3) := by decide +kernel
theorem dX4_modulus_48 : decode cX4_modulus 48 = .ok (.iload 4, 2) := by decide +kernel
theorem dX4_modulus_50 : decode cX4_modulus 50 = .ok (.goto 4, 3) := by decide +kernel
theorem dX4_modulus_53 : decode cX4_modulus 53 = .ok (.iload_n 3, 1) := by decide +kernel
theorem dX4_modulus_54 : decode cX4_modulus 54 = .ok (.istore 6, 2) := by decide +kernel
theorem dX4_modulus_56 : decode cX4_modulus 56 = .ok (.iload 5, 2) := by decide +kernel
theorem dX4_modulus_58 : decode cX4_modulus 58 = .ok (.ifCond .le 11, 3) := by decide +kernel
theorem dX4_modulus_61 : decode cX4_modulus 61 = .ok (.iload 6, 2) := by decide +kernel
theorem dX4_modulus_63 : decode cX4_modulus 63 = .ok (.iload 5, 2) := by decide +kernel
theorem dX4_modulus_65 : decode cX4_modulus 65 = .ok (.idiv, 1) := by decide +kernel
theorem dX4_modulus_66 : decode cX4_modulus 66 = .ok (.goto 5, 3) := by decide +kernel
theorem dX4_modulus_69 : decode cX4_modulus 69 = .ok (.iload 6, 2) := by decide +kernel
theorem dX4_modulus_71 : decode cX4_modulus 71 = .ok (.ireturn, 1) := by decide +kernel
set_option maxRecDepth 20000 in
theorem ggX4_joint_X0_hasJoint : GoodIn wsX4_joint wsX0_hasJoint := goodIn_r _ [8, 9, 23, 24, 25, 26, 27, 28, 29, 30, 31, 32] (by decide +kernel) (by decide +kernel)
set_option maxRecDepth 20000 in
theorem gX4_joint_X0_hasJoint : GoodIn wsX4_joint (wsV RX4 106 RX0 yX0_hasJoint wsX0_hasJoint) := goodIn_app (goodIn_of _ (by decide +kernel)) ggX4_joint_X0_hasJoint
set_option maxRecDepth 20000 in
theorem ggX4_joint_X4_isWithin : GoodIn wsX4_joint wsX4_isWithin := goodIn_r _ [13] (by decide +kernel) (by decide +kernel)
set_option maxRecDepth 20000 in
theorem gX4_joint_X4_isWithin : GoodIn wsX4_joint (va_wsS RX4 80 yX4_isWithin wsX4_isWithin) := goodIn_app (goodIn_of _ (by decide +kernel)) ggX4_joint_X4_isWithin
set_option maxRecDepth 20000 in
theorem ggX4_joint_X4_at : GoodIn wsX4_joint wsX4_at := goodIn_r _ [16] (by decide +kernel) (by decide +kernel)
set_option maxRecDepth 20000 in
theorem gX4_joint_X4_at : GoodIn wsX4_joint (va_wsS RX4 69 yX4_at wsX4_at) := goodIn_app (goodIn_of _ (by decide +kernel)) ggX4_joint_X4_at
theorem dX4_joint_0 : decode cX4_joint 0 = .ok (.aload_n 0, 1) := by decide +kernel
theorem dX4_joint_1 : decode cX4_joint 1 = .ok (.getfield 10, 3) := by decide +kernel
theorem dX4_joint_4 : decode cX4_joint 4 = .ok (.iload_n 1, 1) := by decide +kernel
theorem dX4_joint_5 : decode cX4_joint 5 = .ok (.invokevirtual 106, 3) := by decide +kernel
theorem dX4_joint_8 : decode cX4_joint 8 = .ok (.ifCond .ne 6, 3) := by decide +kernel
theorem dX4_joint_11 : decode cX4_joint 11 = .ok (.bipush (-2), 2) := by decide +kernel
theorem dX4_joint_13 : decode cX4_joint 13 = .ok (.ireturn, 1) := by decide +kernel
theorem dX4_joint_14 : decode cX4_joint 14 = .ok (.iload_n 2, 1) := by decide +kernel
theorem dX4_joint_15 : decode cX4_joint 15 = .ok (.iconst 0, 1) := by decide +kernel
theorem dX4_joint_16 : decode cX4_joint 16 = .ok (.iconst 1, 1) := by decide +kernel
theorem dX4_joint_17 : decode cX4_joint 17 = .ok (.invokestatic 80, 3) := by decide +kernel
theorem dX4_joint_20 : decode cX4_joint 20 = .ok (.ifCond .ne 6, 3) := by decide +kernel
theorem dX4_joint_23 : decode cX4_joint 23 = .ok (.bipush (-3), 2) := by decide +kernel
theorem dX4_joint_25 : decode cX4_joint 25 = .ok (.ireturn, 1) := by decide +kernel
theorem dX4_joint_26 : decode cX4_joint 26 = .ok (.iload_n 2, 1) := by decide +kernel
theorem dX4_joint_27 : decode cX4_joint 27 = .ok (.ifCond .ne 13, 3) := by decide +kernel
theorem dX4_joint_30 : decode cX4_joint 30 = .ok (.aload_n 0, 1) := by decide +kernel
theorem dX4_joint_31 : decode cX4_joint 31 = .ok (.getfield 10, 3) := by decide +kernel
theorem dX4_joint_34 : decode cX4_joint 34 = .ok (.getfield 168, 3) := by decide +kernel
theorem dX4_joint_37 : decode cX4_joint 37 = .ok (.goto 10, 3) := by decide +kernel
theorem dX4_joint_40 : decode cX4_joint 40 = .ok (.aload_n 0, 1) := by decide +kernel
theorem dX4_joint_41 : decode cX4_joint 41 = .ok (.getfield 10, 3) := by decide +kernel
theorem dX4_joint_44 : decode cX4_joint 44 = .ok (.getfield 171, 3) := by decide +kernel
theorem dX4_joint_47 : decode cX4_joint 47 = .ok (.iload_n 1, 1) := by decide +kernel
theorem dX4_joint_48 : decode cX4_joint 48 = .ok (.invokestatic 69, 3) := by decide +kernel
theorem dX4_joint_51 : decode cX4_joint 51 = .ok (.ireturn, 1) := by decide +kernel
set_option maxRecDepth 20000 in
theorem ggX4_atStep_X4_at : GoodIn wsX4_atStep wsX4_at := goodIn_r _ [8] (by decide +kernel) (by decide +kernel)
set_option maxRecDepth 20000 in
theorem gX4_atStep_X4_at : GoodIn wsX4_atStep (va_wsS RX4 69 yX4_at wsX4_at) := goodIn_app (goodIn_of _ (by decide +kernel)) ggX4_atStep_X4_at
theorem dX4_atStep_0 : decode cX4_atStep 0 = .ok (.iload_n 1, 1) := by decide +kernel
theorem dX4_atStep_1 : decode cX4_atStep 1 = .ok (.ifCond .ge 6, 3) := by decide +kernel
theorem dX4_atStep_4 : decode cX4_atStep 4 = .ok (.bipush (-3), 2) := by decide +kernel
theorem dX4_atStep_6 : decode cX4_atStep 6 = .ok (.ireturn, 1) := by decide +kernel
theorem dX4_atStep_7 : decode cX4_atStep 7 = .ok (.iload_n 1, 1) := by decide +kernel
theorem dX4_atStep_8 : decode cX4_atStep 8 = .ok (.aload_n 0, 1) := by decide +kernel
theorem dX4_atStep_9 : decode cX4_atStep 9 = .ok (.getfield 10, 3) := by decide +kernel
theorem dX4_atStep_12 : decode cX4_atStep 12 = .ok (.getfield 91, 3) := by decide +kernel
theorem dX4_atStep_15 : decode cX4_atStep 15 = .ok (.if_icmp .ge 17, 3) := by decide +kernel
theorem dX4_atStep_18 : decode cX4_atStep 18 = .ok (.aload_n 0, 1) := by decide +kernel
theorem dX4_atStep_19 : decode cX4_atStep 19 = .ok (.getfield 19, 3) := by decide +kernel
theorem dX4_atStep_22 : decode cX4_atStep 22 = .ok (.getfield 174, 3) := by decide +kernel
theorem dX4_atStep_25 : decode cX4_atStep 25 = .ok (.iload_n 1, 1) := by decide +kernel
theorem dX4_atStep_26 : decode cX4_atStep 26 = .ok (.invokestatic 69, 3) := by decide +kernel
theorem dX4_atStep_29 : decode cX4_atStep 29 = .ok (.goto 4, 3) := by decide +kernel
theorem dX4_atStep_32 : decode cX4_atStep 32 = .ok (.iconst (-1), 1) := by decide +kernel
theorem dX4_atStep_33 : decode cX4_atStep 33 = .ok (.ireturn, 1) := by decide +kernel
set_option maxRecDepth 20000 in
theorem ggX4_way_X0_has : GoodIn wsX4_way wsX0_has := goodIn_r _ [8, 9, 27, 28, 29, 30, 31, 32, 33, 34, 35, 36] (by decide +kernel) (by decide +kernel)
set_option maxRecDepth 20000 in
theorem gX4_way_X0_has : GoodIn wsX4_way (wsV RX4 62 RX0 yX0_has wsX0_has) := goodIn_app (goodIn_of _ (by decide +kernel)) ggX4_way_X0_has
set_option maxRecDepth 20000 in
theorem ggX4_way_X4_at : GoodIn wsX4_way wsX4_at := goodIn_r _ [13] (by decide +kernel) (by decide +kernel)
set_option maxRecDepth 20000 in
theorem gX4_way_X4_at : GoodIn wsX4_way (va_wsS RX4 69 yX4_at wsX4_at) := goodIn_app (goodIn_of _ (by decide +kernel)) ggX4_way_X4_at
theorem dX4_way_0 : decode cX4_way 0 = .ok (.aload_n 0, 1) := by decide +kernel
theorem dX4_way_1 : decode cX4_way 1 = .ok (.getfield 10, 3) := by decide +kernel
theorem dX4_way_4 : decode cX4_way 4 = .ok (.iload_n 1, 1) := by decide +kernel
theorem dX4_way_5 : decode cX4_way 5 = .ok (.invokevirtual 62, 3) := by decide +kernel
theorem dX4_way_8 : decode cX4_way 8 = .ok (.ifCond .ne 6, 3) := by decide +kernel
theorem dX4_way_11 : decode cX4_way 11 = .ok (.bipush (-2), 2) := by decide +kernel
theorem dX4_way_13 : decode cX4_way 13 = .ok (.ireturn, 1) := by decide +kernel
theorem dX4_way_14 : decode cX4_way 14 = .ok (.iload_n 2, 1) := by decide +kernel
theorem dX4_way_15 : decode cX4_way 15 = .ok (.ifCond .ge 6, 3) := by decide +kernel
theorem dX4_way_18 : decode cX4_way 18 = .ok (.bipush (-3), 2) := by decide +kernel
theorem dX4_way_20 : decode cX4_way 20 = .ok (.ireturn, 1) := by decide +kernel
theorem dX4_way_21 : decode cX4_way 21 = .ok (.iload_n 1, 1) := by decide +kernel
theorem dX4_way_22 : decode cX4_way 22 = .ok (.istore_n 3, 1) := by decide +kernel
theorem dX4_way_23 : decode cX4_way 23 = .ok (.iconst 0, 1) := by decide +kernel
theorem dX4_way_24 : decode cX4_way 24 = .ok (.istore 4, 2) := by decide +kernel
theorem dX4_way_26 : decode cX4_way 26 = .ok (.iload 4, 2) := by decide +kernel
theorem dX4_way_28 : decode cX4_way 28 = .ok (.iload_n 2, 1) := by decide +kernel
theorem dX4_way_29 : decode cX4_way 29 = .ok (.if_icmp .ge 33, 3) := by decide +kernel
theorem dX4_way_32 : decode cX4_way 32 = .ok (.iload 4, 2) := by decide +kernel
theorem dX4_way_34 : decode cX4_way 34 = .ok (.bipush 12, 2) := by decide +kernel
theorem dX4_way_36 : decode cX4_way 36 = .ok (.if_icmp .ge 26, 3) := by decide +kernel
theorem dX4_way_39 : decode cX4_way 39 = .ok (.iload_n 3, 1) := by decide +kernel
theorem dX4_way_40 : decode cX4_way 40 = .ok (.iconst (-1), 1) := by decide +kernel
theorem dX4_way_41 : decode cX4_way 41 = .ok (.if_icmp .eq 21, 3) := by decide +kernel
theorem dX4_way_44 : decode cX4_way 44 = .ok (.aload_n 0, 1) := by decide +kernel
theorem dX4_way_45 : decode cX4_way 45 = .ok (.getfield 19, 3) := by decide +kernel
theorem dX4_way_48 : decode cX4_way 48 = .ok (.getfield 156, 3) := by decide +kernel
theorem dX4_way_51 : decode cX4_way 51 = .ok (.iload_n 3, 1) := by decide +kernel
theorem dX4_way_52 : decode cX4_way 52 = .ok (.invokestatic 69, 3) := by decide +kernel
theorem dX4_way_55 : decode cX4_way 55 = .ok (.istore_n 3, 1) := by decide +kernel
theorem dX4_way_56 : decode cX4_way 56 = .ok (.iinc 4 1, 3) := by decide +kernel
theorem dX4_way_59 : decode cX4_way 59 = .ok (.goto (-33), 3) := by decide +kernel
theorem dX4_way_62 : decode cX4_way 62 = .ok (.iload_n 3, 1) := by decide +kernel
theorem dX4_way_63 : decode cX4_way 63 = .ok (.ireturn, 1) := by decide +kernel
set_option maxRecDepth 20000 in
theorem ggX4_end_X0_has : GoodIn wsX4_end wsX0_has := goodIn_r _ [7, 8, 25, 26, 27, 28, 29, 30, 31, 32, 33, 34] (by decide +kernel) (by decide +kernel)
set_option maxRecDepth 20000 in
theorem gX4_end_X0_has : GoodIn wsX4_end (wsV RX4 62 RX0 yX0_has wsX0_has) := goodIn_app (goodIn_of _ (by decide +kernel)) ggX4_end_X0_has
set_option maxRecDepth 20000 in
theorem ggX4_end_X1_hotSpotOf : GoodIn wsX4_end wsX1_hotSpotOf := goodIn_r _ [13, 14, 15, 16, 17, 18, 35, 36, 37, 38, 39, 40, 41] (by decide +kernel) (by decide +kernel)
set_option maxRecDepth 20000 in
theorem gX4_end_X1_hotSpotOf : GoodIn wsX4_end (wsV RX4 177 RX1 yX1_hotSpotOf wsX1_hotSpotOf) := goodIn_app (goodIn_of _ (by decide +kernel)) ggX4_end_X1_hotSpotOf
theorem dX4_end_0 : decode cX4_end 0 = .ok (.aload_n 0, 1) := by decide +kernel
theorem dX4_end_1 : decode cX4_end 1 = .ok (.getfield 10, 3) := by decide +kernel
theorem dX4_end_4 : decode cX4_end 4 = .ok (.iload_n 1, 1) := by decide +kernel
theorem dX4_end_5 : decode cX4_end 5 = .ok (.invokevirtual 62, 3) := by decide +kernel
theorem dX4_end_8 : decode cX4_end 8 = .ok (.ifCond .eq 14, 3) := by decide +kernel
theorem dX4_end_11 : decode cX4_end 11 = .ok (.aload_n 0, 1) := by decide +kernel
theorem dX4_end_12 : decode cX4_end 12 = .ok (.getfield 19, 3) := by decide +kernel
theorem dX4_end_15 : decode cX4_end 15 = .ok (.iload_n 1, 1) := by decide +kernel
theorem dX4_end_16 : decode cX4_end 16 = .ok (.invokevirtual 177, 3) := by decide +kernel
theorem dX4_end_19 : decode cX4_end 19 = .ok (.goto 5, 3) := by decide +kernel
theorem dX4_end_22 : decode cX4_end 22 = .ok (.bipush (-2), 2) := by decide +kernel
theorem dX4_end_24 : decode cX4_end 24 = .ok (.ireturn, 1) := by decide +kernel
set_option maxRecDepth 20000 in
theorem ggX4_gathers_X0_has : GoodIn wsX4_gathers wsX0_has := goodIn_r _ [8, 9, 32, 33, 34, 35, 36, 37, 38, 39, 40, 41] (by decide +kernel) (by decide +kernel)
set_option maxRecDepth 20000 in
theorem gX4_gathers_X0_has : GoodIn wsX4_gathers (wsV RX4 62 RX0 yX0_has wsX0_has) := goodIn_app (goodIn_of _ (by decide +kernel)) ggX4_gathers_X0_has
set_option maxRecDepth 20000 in
theorem ggX4_gathers_X1_hotSpotOf : GoodIn wsX4_gathers wsX1_hotSpotOf := goodIn_r _ [14, 15, 16, 17, 18, 19, 42, 43, 44, 45, 46, 47, 48] (by decide +kernel) (by decide +kernel)
set_option maxRecDepth 20000 in
theorem gX4_gathers_X1_hotSpotOf : GoodIn wsX4_gathers (wsV RX4 177 RX1 yX1_hotSpotOf wsX1_hotSpotOf) := goodIn_app (goodIn_of _ (by decide +kernel)) ggX4_gathers_X1_hotSpotOf
set_option maxRecDepth 20000 in
theorem ggX4_gathers_X0_firstNeed : GoodIn wsX4_gathers wsX0_firstNeed := goodIn_r _ [23, 24, 25, 17, 18, 19, 32, 33, 34, 35, 36, 37, 38, 39, 40, 41] (by decide +kernel) (by decide +kernel)
set_option maxRecDepth 20000 in
theorem gX4_gathers_X0_firstNeed : GoodIn wsX4_gathers (wsV RX4 180 RX0 yX0_firstNeed wsX0_firstNeed) := goodIn_app (goodIn_of _ (by decide +kernel)) ggX4_gathers_X0_firstNeed
theorem dX4_gathers_0 : decode cX4_gathers 0 = .ok (.aload_n 0, 1) := by decide +kernel
theorem dX4_gathers_1 : decode cX4_gathers 1 = .ok (.getfield 10, 3) := by decide +kernel
theorem dX4_gathers_4 : decode cX4_gathers 4 = .ok (.iload_n 1, 1) := by decide +kernel
theorem dX4_gathers_5 : decode cX4_gathers 5 = .ok (.invokevirtual 62, 3) := by decide +kernel
theorem dX4_gathers_8 : decode cX4_gathers 8 = .ok (.ifCond .ne 6, 3) := by decide +kernel
theorem dX4_gathers_11 : decode cX4_gathers 11 = .ok (.bipush (-2), 2) := by decide +kernel
theorem dX4_gathers_13 : decode cX4_gathers 13 = .ok (.ireturn, 1) := by decide +kernel
theorem dX4_gathers_14 : decode cX4_gathers 14 = .ok (.iconst 0, 1) := by decide +kernel
theorem dX4_gathers_15 : decode cX4_gathers 15 = .ok (.istore_n 2, 1) := by decide +kernel
theorem dX4_gathers_16 : decode cX4_gathers 16 = .ok (.iconst 0, 1) := by decide +kernel
theorem dX4_gathers_17 : decode cX4_gathers 17 = .ok (.istore_n 3, 1) := by decide +kernel
theorem dX4_gathers_18 : decode cX4_gathers 18 = .ok (.iload_n 3, 1) := by decide +kernel
theorem dX4_gathers_19 : decode cX4_gathers 19 = .ok (.aload_n 0, 1) := by decide +kernel
theorem dX4_gathers_20 : decode cX4_gathers 20 = .ok (.getfield 10, 3) := by decide +kernel
theorem dX4_gathers_23 : decode cX4_gathers 23 = .ok (.getfield 91, 3) := by decide +kernel
theorem dX4_gathers_26 : decode cX4_gathers 26 = .ok (.if_icmp .ge 32, 3) := by decide +kernel
theorem dX4_gathers_29 : decode cX4_gathers 29 = .ok (.aload_n 0, 1) := by decide +kernel
theorem dX4_gathers_30 : decode cX4_gathers 30 = .ok (.getfield 19, 3) := by decide +kernel
theorem dX4_gathers_33 : decode cX4_gathers 33 = .ok (.iload_n 3, 1) := by decide +kernel
theorem dX4_gathers_34 : decode cX4_gathers 34 = .ok (.invokevirtual 177, 3) := by decide +kernel
theorem dX4_gathers_37 : decode cX4_gathers 37 = .ok (.iload_n 1, 1) := by decide +kernel
theorem dX4_gathers_38 : decode cX4_gathers 38 = .ok (.if_icmp .ne 14, 3) := by decide +kernel
theorem dX4_gathers_41 : decode cX4_gathers 41 = .ok (.iload_n 2, 1) := by decide +kernel
theorem dX4_gathers_42 : decode cX4_gathers 42 = .ok (.aload_n 0, 1) := by decide +kernel
theorem dX4_gathers_43 : decode cX4_gathers 43 = .ok (.getfield 10, 3) := by decide +kernel
theorem dX4_gathers_46 : decode cX4_gathers 46 = .ok (.iload_n 3, 1) := by decide +kernel
theorem dX4_gathers_47 : decode cX4_gathers 47 = .ok (.invokevirtual 180, 3) := by decide +kernel
theorem dX4_gathers_50 : decode cX4_gathers 50 = .ok (.iadd, 1) := by decide +kernel
theorem dX4_gathers_51 : decode cX4_gathers 51 = .ok (.istore_n 2, 1) := by decide +kernel
theorem dX4_gathers_52 : decode cX4_gathers 52 = .ok (.iinc 3 1, 3) := by decide +kernel
theorem dX4_gathers_55 : decode cX4_gathers 55 = .ok (.goto (-37), 3) := by decide +kernel
theorem dX4_gathers_58 : decode cX4_gathers 58 = .ok (.iload_n 2, 1) := by decide +kernel
theorem dX4_gathers_59 : decode cX4_gathers 59 = .ok (.ireturn, 1) := by decide +kernel
set_option maxRecDepth 20000 in
theorem ggX4_leastFeeder_X0_has : GoodIn wsX4_leastFeeder wsX0_has := goodIn_r _ [6, 7, 128, 129, 130, 131, 132, 133, 134, 135, 136, 137] (by decide +kernel) (by decide +kernel)
set_option maxRecDepth 20000 in
theorem gX4_leastFeeder_X0_has : GoodIn wsX4_leastFeeder (wsV RX4 62 RX0 yX0_has wsX0_has) := goodIn_app (goodIn_of _ (by decide +kernel)) ggX4_leastFeeder_X0_has
set_option maxRecDepth 20000 in
theorem ggX4_leastFeeder_X4_hasRoomForFeeder : GoodIn wsX4_leastFeeder wsX4_hasRoomForFeeder := goodIn_r _ [12, 1, 13, 14, 15, 5, 16, 7, 17, 18, 19, 20, 21, 122, 123, 124, 125, 126, 127, 128, 129, 130, 131, 132, 133, 134, 135, 136, 137] (by decide +kernel) (by decide +kernel)
set_option maxRecDepth 20000 in
theorem gX4_leastFeeder_X4_hasRoomForFeeder : GoodIn wsX4_leastFeeder (wsV RX4 183 RX4 yX4_hasRoomForFeeder wsX4_hasRoomForFeeder) := goodIn_app (goodIn_of _ (by decide +kernel)) ggX4_leastFeeder_X4_hasRoomForFeeder
set_option maxRecDepth 20000 in
theorem ggX4_leastFeeder_X4_isSoundWithFeeder : GoodIn wsX4_leastFeeder wsX4_isSoundWithFeeder := goodIn_r _ [25, 26, 1, 27, 28, 29, 30, 5, 31, 7, 21, 32, 33, 34, 35, 36, 37, 38, 39, 40, 41, 42, 43, 44, 45, 46, 47, 48, 49, 50, 51, 52, 53, 54, 55, 56, 57, 58, 59, 60, 61, 62, 63, 64, 65, 11, 66, 67, 68, 69, 70, 71, 72, 73, 74, 75, 76, 77, 78, 79, 80, 81, 82, 83, 84, 85, 86, 87, 88, 89, 90, 91, 92, 93, 94, 95, 96, 97, 98, 99, 100, 101, 102, 103, 104, 105, 106, 107, 108, 109, 110, 111, 3, 4, 6, 112, 113, 114, 115, 116, 117, 118, 119, 120, 121, 122, 123, 124, 125, 126, 127, 128, 129, 130, 131, 132, 133, 134, 135, 136, 137, 138, 139, 140, 141, 142, 143, 144] (by decide +kernel) (by decide +kernel)
set_option maxRecDepth 20000 in
theorem gX4_leastFeeder_X4_isSoundWithFeeder : GoodIn wsX4_leastFeeder (wsV RX4 186 RX4 yX4_isSoundWithFeeder wsX4_isSoundWithFeeder) := goodIn_app (goodIn_of _ (by decide +kernel)) ggX4_leastFeeder_X4_isSoundWithFeeder
theorem dX4_leastFeeder_0 : decode cX4_leastFeeder 0 = .ok (.aload_n 0, 1) := by decide +kernel
theorem dX4_leastFeeder_1 : decode cX4_leastFeeder 1 = .ok (.getfield 10, 3) := by decide +kernel
theorem dX4_leastFeeder_4 : decode cX4_leastFeeder 4 = .ok (.iload_n 1, 1) := by decide +kernel
theorem dX4_leastFeeder_5 : decode cX4_leastFeeder 5 = .ok (.invokevirtual 62, 3) := by decide +kernel
theorem dX4_leastFeeder_8 : decode cX4_leastFeeder 8 = .ok (.ifCond .ne 6, 3) := by decide +kernel
theorem dX4_leastFeeder_11 : decode cX4_leastFeeder 11 = .ok (.bipush (-2), 2) := by decide +kernel
theorem dX4_leastFeeder_13 : decode cX4_leastFeeder 13 = .ok (.ireturn, 1) := by decide +kernel
theorem dX4_leastFeeder_14 : decode cX4_leastFeeder 14 = .ok (.aload_n 0, 1) := by decide +kernel
theorem dX4_leastFeeder_15 : decode cX4_leastFeeder 15 = .ok (.invokevirtual 183, 3) := by decide +kernel
theorem dX4_leastFeeder_18 : decode cX4_leastFeeder 18 = .ok (.ifCond .ne 6, 3) := by decide +kernel
theorem dX4_leastFeeder_21 : decode cX4_leastFeeder 21 = .ok (.bipush (-5), 2) := by decide +kernel
theorem dX4_leastFeeder_23 : decode cX4_leastFeeder 23 = .ok (.ireturn, 1) := by decide +kernel
theorem dX4_leastFeeder_24 : decode cX4_leastFeeder 24 = .ok (.iconst 1, 1) := by decide +kernel
theorem dX4_leastFeeder_25 : decode cX4_leastFeeder 25 = .ok (.istore_n 2, 1) := by decide +kernel
theorem dX4_leastFeeder_26 : decode cX4_leastFeeder 26 = .ok (.iload_n 2, 1) := by decide +kernel
theorem dX4_leastFeeder_27 : decode cX4_leastFeeder 27 = .ok (.bipush 15, 2) := by decide +kernel
theorem dX4_leastFeeder_29 : decode cX4_leastFeeder 29 = .ok (.if_icmp .gt 20, 3) := by decide +kernel
theorem dX4_leastFeeder_32 : decode cX4_leastFeeder 32 = .ok (.aload_n 0, 1) := by decide +kernel
theorem dX4_leastFeeder_33 : decode cX4_leastFeeder 33 = .ok (.iload_n 1, 1) := by decide +kernel
theorem dX4_leastFeeder_34 : decode cX4_leastFeeder 34 = .ok (.iload_n 2, 1) := by decide +kernel
theorem dX4_leastFeeder_35 : decode cX4_leastFeeder 35 = .ok (.invokevirtual 186, 3) := by decide +kernel
theorem dX4_leastFeeder_38 : decode cX4_leastFeeder 38 = .ok (.ifCond .eq 5, 3) := by decide +kernel
theorem dX4_leastFeeder_41 : decode cX4_leastFeeder 41 = .ok (.iload_n 2, 1) := by decide +kernel
theorem dX4_leastFeeder_42 : decode cX4_leastFeeder 42 = .ok (.ireturn, 1) := by decide +kernel
theorem dX4_leastFeeder_43 : decode cX4_leastFeeder 43 = .ok (.iinc 2 1, 3) := by decide +kernel
theorem dX4_leastFeeder_46 : decode cX4_leastFeeder 46 = .ok (.goto (-20), 3) := by decide +kernel
theorem dX4_leastFeeder_49 : decode cX4_leastFeeder 49 = .ok (.iconst (-1), 1) := by decide +kernel
theorem dX4_leastFeeder_50 : decode cX4_leastFeeder 50 = .ok (.ireturn, 1) := by decide +kernel
set_option maxRecDepth 20000 in
theorem ggX4_bestFeeder_X4_hasRoomForFeeder : GoodIn wsX4_bestFeeder wsX4_hasRoomForFeeder := goodIn_r _ [7, 1, 8, 9, 10, 11, 12, 13, 14, 15, 16, 17, 18, 122, 123, 124, 125, 126, 127, 128, 129, 130, 131, 132, 133, 134, 135, 136, 137] (by decide +kernel) (by decide +kernel)
set_option maxRecDepth 20000 in
theorem gX4_bestFeeder_X4_hasRoomForFeeder : GoodIn wsX4_bestFeeder (wsV RX4 183 RX4 yX4_hasRoomForFeeder wsX4_hasRoomForFeeder) := goodIn_app (goodIn_of _ (by decide +kernel)) ggX4_bestFeeder_X4_hasRoomForFeeder
set_option maxRecDepth 20000 in
theorem ggX4_bestFeeder_X4_isSoundWithFeeder : GoodIn wsX4_bestFeeder wsX4_isSoundWithFeeder := goodIn_r _ [22, 23, 1, 24, 25, 26, 27, 11, 28, 13, 18, 29, 30, 31, 32, 33, 34, 35, 36, 37, 38, 39, 40, 41, 42, 43, 44, 45, 46, 47, 48, 49, 50, 51, 52, 53, 54, 55, 56, 57, 58, 59, 60, 61, 62, 6, 63, 64, 65, 66, 67, 68, 69, 70, 71, 72, 73, 74, 75, 76, 77, 78, 79, 80, 81, 82, 83, 84, 85, 86, 87, 88, 89, 90, 91, 92, 93, 94, 95, 96, 97, 98, 99, 100, 101, 102, 103, 104, 105, 106, 107, 108, 109, 110, 111, 112, 113, 114, 115, 116, 117, 118, 119, 120, 121, 122, 123, 124, 125, 126, 127, 128, 129, 130, 131, 132, 133, 134, 135, 136, 137, 138, 139, 140, 141, 142, 143, 144] (by decide +kernel) (by decide +kernel)
set_option maxRecDepth 20000 in
theorem gX4_bestFeeder_X4_isSoundWithFeeder : GoodIn wsX4_bestFeeder (wsV RX4 186 RX4 yX4_isSoundWithFeeder wsX4_isSoundWithFeeder) := goodIn_app (goodIn_of _ (by decide +kernel)) ggX4_bestFeeder_X4_isSoundWithFeeder
theorem dX4_bestFeeder_0 : decode cX4_bestFeeder 0 = .ok (.aload_n 0, 1) := by decide +kernel
theorem dX4_bestFeeder_1 : decode cX4_bestFeeder 1 = .ok (.invokevirtual 183, 3) := by decide +kernel
theorem dX4_bestFeeder_4 : decode cX4_bestFeeder 4 = .ok (.ifCond .ne 6, 3) := by decide +kernel
theorem dX4_bestFeeder_7 : decode cX4_bestFeeder 7 = .ok (.bipush (-5), 2) := by decide +kernel
theorem dX4_bestFeeder_9 : decode cX4_bestFeeder 9 = .ok (.ireturn, 1) := by decide +kernel
theorem dX4_bestFeeder_10 : decode cX4_bestFeeder 10 = .ok (.iconst 1, 1) := by decide +kernel
theorem dX4_bestFeeder_11 : decode cX4_bestFeeder 11 = .ok (.istore_n 1, 1) := by decide +kernel
theorem dX4_bestFeeder_12 : decode cX4_bestFeeder 12 = .ok (.iload_n 1, 1) := by decide +kernel
theorem dX4_bestFeeder_13 : decode cX4_bestFeeder 13 = .ok (.bipush 15, 2) := by decide +kernel
theorem dX4_bestFeeder_15 : decode cX4_bestFeeder 15 = .ok (.if_icmp .gt 44, 3) := by decide +kernel
theorem dX4_bestFeeder_18 : decode cX4_bestFeeder 18 = .ok (.iconst 0, 1) := by decide +kernel
theorem dX4_bestFeeder_19 : decode cX4_bestFeeder 19 = .ok (.istore_n 2, 1) := by decide +kernel
theorem dX4_bestFeeder_20 : decode cX4_bestFeeder 20 = .ok (.iload_n 2, 1) := by decide +kernel
theorem dX4_bestFeeder_21 : decode cX4_bestFeeder 21 = .ok (.aload_n 0, 1) := by decide +kernel
theorem dX4_bestFeeder_22 : decode cX4_bestFeeder 22 = .ok (.getfield 10, 3) := by decide +kernel
theorem dX4_bestFeeder_25 : decode cX4_bestFeeder 25 = .ok (.getfield 91, 3) := by decide +kernel
theorem dX4_bestFeeder_28 : decode cX4_bestFeeder 28 = .ok (.if_icmp .ge 25, 3) := by decide +kernel
theorem dX4_bestFeeder_31 : decode cX4_bestFeeder 31 = .ok (.aload_n 0, 1) := by decide +kernel
theorem dX4_bestFeeder_32 : decode cX4_bestFeeder 32 = .ok (.iload_n 2, 1) := by decide +kernel
theorem dX4_bestFeeder_33 : decode cX4_bestFeeder 33 = .ok (.iload_n 1, 1) := by decide +kernel
theorem dX4_bestFeeder_34 : decode cX4_bestFeeder 34 = .ok (.invokevirtual 186, 3) := by decide +kernel
theorem dX4_bestFeeder_37 : decode cX4_bestFeeder 37 = .ok (.ifCond .eq 10, 3) := by decide +kernel
theorem dX4_bestFeeder_40 : decode cX4_bestFeeder 40 = .ok (.bipush 100, 2) := by decide +kernel
theorem dX4_bestFeeder_42 : decode cX4_bestFeeder 42 = .ok (.iload_n 1, 1) := by decide +kernel
theorem dX4_bestFeeder_43 : decode cX4_bestFeeder 43 = .ok (.imul, 1) := by decide +kernel
theorem dX4_bestFeeder_44 : decode cX4_bestFeeder 44 = .ok (.iload_n 2, 1) := by decide +kernel
theorem dX4_bestFeeder_45 : decode cX4_bestFeeder 45 = .ok (.iadd, 1) := by decide +kernel
theorem dX4_bestFeeder_46 : decode cX4_bestFeeder 46 = .ok (.ireturn, 1) := by decide +kernel
theorem dX4_bestFeeder_47 : decode cX4_bestFeeder 47 = .ok (.iinc 2 1, 3) := by decide +kernel
theorem dX4_bestFeeder_50 : decode cX4_bestFeeder 50 = .ok (.goto (-30), 3) := by decide +kernel
theorem dX4_bestFeeder_53 : decode cX4_bestFeeder 53 = .ok (.iinc 1 1, 3) := by decide +kernel
theorem dX4_bestFeeder_56 : decode cX4_bestFeeder 56 = .ok (.goto (-44), 3) := by decide +kernel
theorem dX4_bestFeeder_59 : decode cX4_bestFeeder 59 = .ok (.iconst (-1), 1) := by decide +kernel
theorem dX4_bestFeeder_60 : decode cX4_bestFeeder 60 = .ok (.ireturn, 1) := by decide +kernel
set_option maxRecDepth 20000 in
theorem ggX4_leastChill_X0_has : GoodIn wsX4_leastChill wsX0_has := goodIn_r _ [9, 10, 107, 108, 109, 110, 111, 112, 113, 114, 115, 116] (by decide +kernel) (by decide +kernel)
set_option maxRecDepth 20000 in
theorem gX4_leastChill_X0_has : GoodIn wsX4_leastChill (wsV RX4 62 RX0 yX0_has wsX0_has) := goodIn_app (goodIn_of _ (by decide +kernel)) ggX4_leastChill_X0_has
set_option maxRecDepth 20000 in
theorem ggX4_leastChill_X0_copyFrom : GoodIn wsX4_leastChill wsX0_copyFrom := goodIn_r _ [14, 10, 15, 16, 17, 18, 19, 20, 21, 22, 23, 107, 108, 109, 110, 111, 112, 113, 114, 115, 116] (by decide +kernel) (by decide +kernel)
set_option maxRecDepth 20000 in
theorem gX4_leastChill_X0_copyFrom : GoodIn wsX4_leastChill (wsV RX4 189 RX0 yX0_copyFrom wsX0_copyFrom) := goodIn_app (goodIn_of _ (by decide +kernel)) ggX4_leastChill_X0_copyFrom
set_option maxRecDepth 20000 in
theorem ggX4_leastChill_X4_put : GoodIn wsX4_leastChill wsX4_put := goodIn_r _ [27] (by decide +kernel) (by decide +kernel)
set_option maxRecDepth 20000 in
theorem gX4_leastChill_X4_put : GoodIn wsX4_leastChill (va_wsS RX4 73 yX4_put wsX4_put) := goodIn_app (goodIn_of _ (by decide +kernel)) ggX4_leastChill_X4_put
set_option maxRecDepth 20000 in
theorem ggX4_leastChill_X0_stepOf : GoodIn wsX4_leastChill wsX0_stepOf := goodIn_r _ [31, 18, 10, 32, 26, 33, 34, 35, 36, 8, 37, 19, 20, 107, 108, 109, 110, 111, 112, 113, 114, 115, 116] (by decide +kernel) (by decide +kernel)
set_option maxRecDepth 20000 in
theorem gX4_leastChill_X0_stepOf : GoodIn wsX4_leastChill (wsV RX4 192 RX0 yX0_stepOf wsX0_stepOf) := goodIn_app (goodIn_of _ (by decide +kernel)) ggX4_leastChill_X0_stepOf
set_option maxRecDepth 20000 in
theorem ggX4_leastChill_X1_follow : GoodIn wsX4_leastChill wsX1_follow := goodIn_r _ [42, 43, 44, 45, 46, 47, 48, 49, 50, 51, 29, 30, 8, 31, 18, 10, 32, 26, 33, 34, 35, 36, 37, 19, 20, 25, 27, 52, 53, 54, 41, 55, 56, 57, 58, 59, 60, 61, 62, 63, 64, 65, 66, 67, 68, 69, 70, 71, 72, 16, 73, 74, 75, 76, 77, 78, 79, 80, 81, 82, 83, 84, 85, 17, 86, 87, 88, 89, 21, 90, 6, 7, 9, 107, 108, 109, 110, 111, 112, 113, 114, 115, 116, 117, 118, 119, 120, 121, 122, 123] (by decide +kernel) (by decide +kernel)
set_option maxRecDepth 20000 in
theorem gX4_leastChill_X1_follow : GoodIn wsX4_leastChill (wsV RX4 59 RX1 yX1_follow wsX1_follow) := goodIn_app (goodIn_of _ (by decide +kernel)) ggX4_leastChill_X1_follow
set_option maxRecDepth 20000 in
theorem ggX4_leastChill_X1_isSound : GoodIn wsX4_leastChill wsX1_isSound := goodIn_r _ [94, 95, 96, 97, 41, 98, 78, 48, 99, 26, 100, 117, 118, 119, 120, 121, 122, 123] (by decide +kernel) (by decide +kernel)
set_option maxRecDepth 20000 in
theorem gX4_leastChill_X1_isSound : GoodIn wsX4_leastChill (wsV RX4 141 RX1 yX1_isSound wsX1_isSound) := goodIn_app (goodIn_of _ (by decide +kernel)) ggX4_leastChill_X1_isSound
theorem dX4_leastChill_0 : decode cX4_leastChill 0 = .ok (.aload_n 0, 1) := by decide +kernel
theorem dX4_leastChill_1 : decode cX4_leastChill 1 = .ok (.getfield 10, 3) := by decide +kernel
theorem dX4_leastChill_4 : decode cX4_leastChill 4 = .ok (.iload_n 1, 1) := by decide +kernel
theorem dX4_leastChill_5 : decode cX4_leastChill 5 = .ok (.invokevirtual 62, 3) := by decide +kernel
theorem dX4_leastChill_8 : decode cX4_leastChill 8 = .ok (.ifCond .ne 6, 3) := by decide +kernel
theorem dX4_leastChill_11 : decode cX4_leastChill 11 = .ok (.bipush (-2), 2) := by decide +kernel
theorem dX4_leastChill_13 : decode cX4_leastChill 13 = .ok (.ireturn, 1) := by decide +kernel
theorem dX4_leastChill_14 : decode cX4_leastChill 14 = .ok (.aload_n 0, 1) := by decide +kernel
theorem dX4_leastChill_15 : decode cX4_leastChill 15 = .ok (.getfield 37, 3) := by decide +kernel
theorem dX4_leastChill_18 : decode cX4_leastChill 18 = .ok (.aload_n 0, 1) := by decide +kernel
theorem dX4_leastChill_19 : decode cX4_leastChill 19 = .ok (.getfield 10, 3) := by decide +kernel
theorem dX4_leastChill_22 : decode cX4_leastChill 22 = .ok (.invokevirtual 189, 3) := by decide +kernel
theorem dX4_leastChill_25 : decode cX4_leastChill 25 = .ok (.iconst (-1), 1) := by decide +kernel
theorem dX4_leastChill_26 : decode cX4_leastChill 26 = .ok (.istore_n 2, 1) := by decide +kernel
theorem dX4_leastChill_27 : decode cX4_leastChill 27 = .ok (.iconst 0, 1) := by decide +kernel
theorem dX4_leastChill_28 : decode cX4_leastChill 28 = .ok (.istore_n 3, 1) := by decide +kernel
theorem dX4_leastChill_29 : decode cX4_leastChill 29 = .ok (.iload_n 3, 1) := by decide +kernel
theorem dX4_leastChill_30 : decode cX4_leastChill 30 = .ok (.sipush 500, 3) := by decide +kernel
theorem dX4_leastChill_33 : decode cX4_leastChill 33 = .ok (.if_icmp .gt 63, 3) := by decide +kernel
theorem dX4_leastChill_36 : decode cX4_leastChill 36 = .ok (.aload_n 0, 1) := by decide +kernel
theorem dX4_leastChill_37 : decode cX4_leastChill 37 = .ok (.getfield 37, 3) := by decide +kernel
theorem dX4_leastChill_40 : decode cX4_leastChill 40 = .ok (.getfield 84, 3) := by decide +kernel
theorem dX4_leastChill_43 : decode cX4_leastChill 43 = .ok (.iload_n 1, 1) := by decide +kernel
theorem dX4_leastChill_44 : decode cX4_leastChill 44 = .ok (.iload_n 3, 1) := by decide +kernel
theorem dX4_leastChill_45 : decode cX4_leastChill 45 = .ok (.invokestatic 73, 3) := by decide +kernel
theorem dX4_leastChill_48 : decode cX4_leastChill 48 = .ok (.aload_n 0, 1) := by decide +kernel
theorem dX4_leastChill_49 : decode cX4_leastChill 49 = .ok (.getfield 37, 3) := by decide +kernel
theorem dX4_leastChill_52 : decode cX4_leastChill 52 = .ok (.iload_n 1, 1) := by decide +kernel
theorem dX4_leastChill_53 : decode cX4_leastChill 53 = .ok (.invokevirtual 192, 3) := by decide +kernel
theorem dX4_leastChill_56 : decode cX4_leastChill 56 = .ok (.istore 4, 2) := by decide +kernel
theorem dX4_leastChill_58 : decode cX4_leastChill 58 = .ok (.iload 4, 2) := by decide +kernel
theorem dX4_leastChill_60 : decode cX4_leastChill 60 = .ok (.iload_n 2, 1) := by decide +kernel
theorem dX4_leastChill_61 : decode cX4_leastChill 61 = .ok (.if_icmp .eq 29, 3) := by decide +kernel
theorem dX4_leastChill_64 : decode cX4_leastChill 64 = .ok (.iload 4, 2) := by decide +kernel
theorem dX4_leastChill_66 : decode cX4_leastChill 66 = .ok (.istore_n 2, 1) := by decide +kernel
theorem dX4_leastChill_67 : decode cX4_leastChill 67 = .ok (.aload_n 0, 1) := by decide +kernel
theorem dX4_leastChill_68 : decode cX4_leastChill 68 = .ok (.getfield 40, 3) := by decide +kernel
theorem dX4_leastChill_71 : decode cX4_leastChill 71 = .ok (.aload_n 0, 1) := by decide +kernel
theorem dX4_leastChill_72 : decode cX4_leastChill 72 = .ok (.getfield 37, 3) := by decide +kernel
theorem dX4_leastChill_75 : decode cX4_leastChill 75 = .ok (.invokevirtual 59, 3) := by decide +kernel
theorem dX4_leastChill_78 : decode cX4_leastChill 78 = .ok (.aload_n 0, 1) := by decide +kernel
theorem dX4_leastChill_79 : decode cX4_leastChill 79 = .ok (.getfield 40, 3) := by decide +kernel
theorem dX4_leastChill_82 : decode cX4_leastChill 82 = .ok (.invokevirtual 141, 3) := by decide +kernel
theorem dX4_leastChill_85 : decode cX4_leastChill 85 = .ok (.ifCond .eq 5, 3) := by decide +kernel
theorem dX4_leastChill_88 : decode cX4_leastChill 88 = .ok (.iload_n 3, 1) := by decide +kernel
theorem dX4_leastChill_89 : decode cX4_leastChill 89 = .ok (.ireturn, 1) := by decide +kernel
theorem dX4_leastChill_90 : decode cX4_leastChill 90 = .ok (.iinc 3 1, 3) := by decide +kernel
theorem dX4_leastChill_93 : decode cX4_leastChill 93 = .ok (.goto (-64), 3) := by decide +kernel
theorem dX4_leastChill_96 : decode cX4_leastChill 96 = .ok (.iconst (-1), 1) := by decide +kernel
theorem dX4_leastChill_97 : decode cX4_leastChill 97 = .ok (.ireturn, 1) := by decide +kernel
set_option maxRecDepth 20000 in
theorem ggX4_excessWith_X0_has : GoodIn wsX4_excessWith wsX0_has := goodIn_r _ [9, 10, 105, 106, 107, 108, 109, 110, 111, 112, 113, 114] (by decide +kernel) (by decide +kernel)
set_option maxRecDepth 20000 in
theorem gX4_excessWith_X0_has : GoodIn wsX4_excessWith (wsV RX4 62 RX0 yX0_has wsX0_has) := goodIn_app (goodIn_of _ (by decide +kernel)) ggX4_excessWith_X0_has
set_option maxRecDepth 20000 in
theorem ggX4_excessWith_X4_isWithin : GoodIn wsX4_excessWith wsX4_isWithin := goodIn_r _ [14] (by decide +kernel) (by decide +kernel)
set_option maxRecDepth 20000 in
theorem gX4_excessWith_X4_isWithin : GoodIn wsX4_excessWith (va_wsS RX4 80 yX4_isWithin wsX4_isWithin) := goodIn_app (goodIn_of _ (by decide +kernel)) ggX4_excessWith_X4_isWithin
set_option maxRecDepth 20000 in
theorem ggX4_excessWith_X0_copyFrom : GoodIn wsX4_excessWith wsX0_copyFrom := goodIn_r _ [18, 10, 19, 20, 21, 22, 23, 24, 25, 26, 27, 105, 106, 107, 108, 109, 110, 111, 112, 113, 114] (by decide +kernel) (by decide +kernel)
set_option maxRecDepth 20000 in
theorem gX4_excessWith_X0_copyFrom : GoodIn wsX4_excessWith (wsV RX4 189 RX0 yX0_copyFrom wsX0_copyFrom) := goodIn_app (goodIn_of _ (by decide +kernel)) ggX4_excessWith_X0_copyFrom
set_option maxRecDepth 20000 in
theorem ggX4_excessWith_X4_put : GoodIn wsX4_excessWith wsX4_put := goodIn_r _ [30] (by decide +kernel) (by decide +kernel)
set_option maxRecDepth 20000 in
theorem gX4_excessWith_X4_put : GoodIn wsX4_excessWith (va_wsS RX4 73 yX4_put wsX4_put) := goodIn_app (goodIn_of _ (by decide +kernel)) ggX4_excessWith_X4_put
set_option maxRecDepth 20000 in
theorem ggX4_excessWith_X1_follow : GoodIn wsX4_excessWith wsX1_follow := goodIn_r _ [35, 36, 37, 38, 39, 40, 41, 42, 43, 44, 45, 46, 8, 47, 22, 10, 48, 13, 49, 50, 51, 52, 53, 23, 24, 29, 30, 54, 55, 56, 34, 57, 58, 59, 60, 61, 62, 63, 64, 65, 66, 67, 68, 69, 70, 71, 72, 73, 74, 20, 75, 76, 77, 78, 79, 80, 81, 82, 83, 84, 85, 86, 87, 21, 88, 89, 90, 91, 25, 92, 6, 7, 9, 105, 106, 107, 108, 109, 110, 111, 112, 113, 114, 115, 116, 117, 118, 119, 120, 121] (by decide +kernel) (by decide +kernel)
set_option maxRecDepth 20000 in
theorem gX4_excessWith_X1_follow : GoodIn wsX4_excessWith (wsV RX4 59 RX1 yX1_follow wsX1_follow) := goodIn_app (goodIn_of _ (by decide +kernel)) ggX4_excessWith_X1_follow
set_option maxRecDepth 20000 in
theorem ggX4_excessWith_X1_excessOfAll : GoodIn wsX4_excessWith wsX1_excessOfAll := goodIn_r _ [96, 80, 41, 97, 13, 98, 115, 116, 117, 118, 119, 120, 121] (by decide +kernel) (by decide +kernel)
set_option maxRecDepth 20000 in
theorem gX4_excessWith_X1_excessOfAll : GoodIn wsX4_excessWith (wsV RX4 135 RX1 yX1_excessOfAll wsX1_excessOfAll) := goodIn_app (goodIn_of _ (by decide +kernel)) ggX4_excessWith_X1_excessOfAll
theorem dX4_excessWith_0 : decode cX4_excessWith 0 = .ok (.aload_n 0, 1) := by decide +kernel
theorem dX4_excessWith_1 : decode cX4_excessWith 1 = .ok (.getfield 10, 3) := by decide +kernel
theorem dX4_excessWith_4 : decode cX4_excessWith 4 = .ok (.iload_n 1, 1) := by decide +kernel
theorem dX4_excessWith_5 : decode cX4_excessWith 5 = .ok (.invokevirtual 62, 3) := by decide +kernel
theorem dX4_excessWith_8 : decode cX4_excessWith 8 = .ok (.ifCond .ne 6, 3) := by decide +kernel
theorem dX4_excessWith_11 : decode cX4_excessWith 11 = .ok (.bipush (-2), 2) := by decide +kernel
theorem dX4_excessWith_13 : decode cX4_excessWith 13 = .ok (.ireturn, 1) := by decide +kernel
theorem dX4_excessWith_14 : decode cX4_excessWith 14 = .ok (.iload_n 2, 1) := by decide +kernel
theorem dX4_excessWith_15 : decode cX4_excessWith 15 = .ok (.iconst 0, 1) := by decide +kernel
theorem dX4_excessWith_16 : decode cX4_excessWith 16 = .ok (.sipush 500, 3) := by decide +kernel
theorem dX4_excessWith_19 : decode cX4_excessWith 19 = .ok (.invokestatic 80, 3) := by decide +kernel
theorem dX4_excessWith_22 : decode cX4_excessWith 22 = .ok (.ifCond .ne 6, 3) := by decide +kernel
theorem dX4_excessWith_25 : decode cX4_excessWith 25 = .ok (.bipush (-3), 2) := by decide +kernel
theorem dX4_excessWith_27 : decode cX4_excessWith 27 = .ok (.ireturn, 1) := by decide +kernel
theorem dX4_excessWith_28 : decode cX4_excessWith 28 = .ok (.aload_n 0, 1) := by decide +kernel
theorem dX4_excessWith_29 : decode cX4_excessWith 29 = .ok (.getfield 37, 3) := by decide +kernel
theorem dX4_excessWith_32 : decode cX4_excessWith 32 = .ok (.aload_n 0, 1) := by decide +kernel
theorem dX4_excessWith_33 : decode cX4_excessWith 33 = .ok (.getfield 10, 3) := by decide +kernel
theorem dX4_excessWith_36 : decode cX4_excessWith 36 = .ok (.invokevirtual 189, 3) := by decide +kernel
theorem dX4_excessWith_39 : decode cX4_excessWith 39 = .ok (.aload_n 0, 1) := by decide +kernel
theorem dX4_excessWith_40 : decode cX4_excessWith 40 = .ok (.getfield 37, 3) := by decide +kernel
theorem dX4_excessWith_43 : decode cX4_excessWith 43 = .ok (.getfield 84, 3) := by decide +kernel
theorem dX4_excessWith_46 : decode cX4_excessWith 46 = .ok (.iload_n 1, 1) := by decide +kernel
theorem dX4_excessWith_47 : decode cX4_excessWith 47 = .ok (.iload_n 2, 1) := by decide +kernel
theorem dX4_excessWith_48 : decode cX4_excessWith 48 = .ok (.invokestatic 73, 3) := by decide +kernel
theorem dX4_excessWith_51 : decode cX4_excessWith 51 = .ok (.aload_n 0, 1) := by decide +kernel
theorem dX4_excessWith_52 : decode cX4_excessWith 52 = .ok (.getfield 40, 3) := by decide +kernel
theorem dX4_excessWith_55 : decode cX4_excessWith 55 = .ok (.aload_n 0, 1) := by decide +kernel
theorem dX4_excessWith_56 : decode cX4_excessWith 56 = .ok (.getfield 37, 3) := by decide +kernel
theorem dX4_excessWith_59 : decode cX4_excessWith 59 = .ok (.invokevirtual 59, 3) := by decide +kernel
theorem dX4_excessWith_62 : decode cX4_excessWith 62 = .ok (.aload_n 0, 1) := by decide +kernel
theorem dX4_excessWith_63 : decode cX4_excessWith 63 = .ok (.getfield 40, 3) := by decide +kernel
theorem dX4_excessWith_66 : decode cX4_excessWith 66 = .ok (.invokevirtual 135, 3) := by decide +kernel
theorem dX4_excessWith_69 : decode cX4_excessWith 69 = .ok (.ireturn, 1) := by decide +kernel
set_option maxRecDepth 20000 in
theorem ggX4_hasRoomForFeeder_X0_hasRoomForSection : GoodIn wsX4_hasRoomForFeeder wsX0_hasRoomForSection := goodIn_r _ [6, 7, 19, 20, 21, 22, 23, 24, 25, 26, 27, 28] (by decide +kernel) (by decide +kernel)
set_option maxRecDepth 20000 in
theorem gX4_hasRoomForFeeder_X0_hasRoomForSection : GoodIn wsX4_hasRoomForFeeder (wsV RX4 47 RX0 yX0_hasRoomForSection wsX0_hasRoomForSection) := goodIn_app (goodIn_of _ (by decide +kernel)) ggX4_hasRoomForFeeder_X0_hasRoomForSection
set_option maxRecDepth 20000 in
theorem ggX4_hasRoomForFeeder_X0_hasRoomForJoint : GoodIn wsX4_hasRoomForFeeder wsX0_hasRoomForJoint := goodIn_r _ [11, 12, 19, 20, 21, 22, 23, 24, 25, 26, 27, 28] (by decide +kernel) (by decide +kernel)
set_option maxRecDepth 20000 in
theorem gX4_hasRoomForFeeder_X0_hasRoomForJoint : GoodIn wsX4_hasRoomForFeeder (wsV RX4 99 RX0 yX0_hasRoomForJoint wsX0_hasRoomForJoint) := goodIn_app (goodIn_of _ (by decide +kernel)) ggX4_hasRoomForFeeder_X0_hasRoomForJoint
theorem dX4_hasRoomForFeeder_0 : decode cX4_hasRoomForFeeder 0 = .ok (.aload_n 0, 1) := by decide +kernel
theorem dX4_hasRoomForFeeder_1 : decode cX4_hasRoomForFeeder 1 = .ok (.getfield 10, 3) := by decide +kernel
theorem dX4_hasRoomForFeeder_4 : decode cX4_hasRoomForFeeder 4 = .ok (.invokevirtual 47, 3) := by decide +kernel
theorem dX4_hasRoomForFeeder_7 : decode cX4_hasRoomForFeeder 7 = .ok (.ifCond .eq 17, 3) := by decide +kernel
theorem dX4_hasRoomForFeeder_10 : decode cX4_hasRoomForFeeder 10 = .ok (.aload_n 0, 1) := by decide +kernel
theorem dX4_hasRoomForFeeder_11 : decode cX4_hasRoomForFeeder 11 = .ok (.getfield 10, 3) := by decide +kernel
theorem dX4_hasRoomForFeeder_14 : decode cX4_hasRoomForFeeder 14 = .ok (.invokevirtual 99, 3) := by decide +kernel
theorem dX4_hasRoomForFeeder_17 : decode cX4_hasRoomForFeeder 17 = .ok (.ifCond .eq 7, 3) := by decide +kernel
theorem dX4_hasRoomForFeeder_20 : decode cX4_hasRoomForFeeder 20 = .ok (.iconst 1, 1) := by decide +kernel
theorem dX4_hasRoomForFeeder_21 : decode cX4_hasRoomForFeeder 21 = .ok (.goto 4, 3) := by decide +kernel
theorem dX4_hasRoomForFeeder_24 : decode cX4_hasRoomForFeeder 24 = .ok (.iconst 0, 1) := by decide +kernel
theorem dX4_hasRoomForFeeder_25 : decode cX4_hasRoomForFeeder 25 = .ok (.ireturn, 1) := by decide +kernel
set_option maxRecDepth 20000 in
theorem ggX4_isSoundWithFeeder_X0_copyFrom : GoodIn wsX4_isSoundWithFeeder wsX0_copyFrom := goodIn_r _ [8, 9, 10, 11, 12, 13, 14, 15, 16, 17, 18, 111, 112, 113, 114, 115, 116, 117, 118, 119, 120] (by decide +kernel) (by decide +kernel)
set_option maxRecDepth 20000 in
theorem gX4_isSoundWithFeeder_X0_copyFrom : GoodIn wsX4_isSoundWithFeeder (wsV RX4 189 RX0 yX0_copyFrom wsX0_copyFrom) := goodIn_app (goodIn_of _ (by decide +kernel)) ggX4_isSoundWithFeeder_X0_copyFrom
set_option maxRecDepth 20000 in
theorem ggX4_isSoundWithFeeder_X0_append : GoodIn wsX4_isSoundWithFeeder wsX0_append := goodIn_r _ [22, 9, 13, 14, 15, 16, 111, 112, 113, 114, 115, 116, 117, 118, 119, 120] (by decide +kernel) (by decide +kernel)
set_option maxRecDepth 20000 in
theorem gX4_isSoundWithFeeder_X0_append : GoodIn wsX4_isSoundWithFeeder (wsV RX4 55 RX0 yX0_append wsX0_append) := goodIn_app (goodIn_of _ (by decide +kernel)) ggX4_isSoundWithFeeder_X0_append
set_option maxRecDepth 20000 in
theorem ggX4_isSoundWithFeeder_X0_link : GoodIn wsX4_isSoundWithFeeder wsX0_link := goodIn_r _ [26, 10, 17, 18, 111, 112, 113, 114, 115, 116, 117, 118, 119, 120] (by decide +kernel) (by decide +kernel)
set_option maxRecDepth 20000 in
theorem gX4_isSoundWithFeeder_X0_link : GoodIn wsX4_isSoundWithFeeder (wsV RX4 102 RX0 yX0_link wsX0_link) := goodIn_app (goodIn_of _ (by decide +kernel)) ggX4_isSoundWithFeeder_X0_link
set_option maxRecDepth 20000 in
theorem ggX4_isSoundWithFeeder_X1_follow : GoodIn wsX4_isSoundWithFeeder wsX1_follow := goodIn_r _ [31, 32, 33, 34, 35, 36, 37, 38, 39, 40, 41, 42, 7, 43, 13, 9, 44, 45, 46, 47, 48, 49, 50, 14, 15, 51, 52, 53, 54, 55, 30, 56, 57, 58, 59, 60, 61, 62, 63, 64, 65, 66, 67, 68, 69, 70, 71, 72, 73, 11, 74, 75, 76, 77, 78, 79, 80, 81, 82, 83, 84, 85, 86, 12, 87, 88, 89, 90, 16, 91, 92, 93, 94, 111, 112, 113, 114, 115, 116, 117, 118, 119, 120, 121, 122, 123, 124, 125, 126, 127] (by decide +kernel) (by decide +kernel)
set_option maxRecDepth 20000 in
theorem gX4_isSoundWithFeeder_X1_follow : GoodIn wsX4_isSoundWithFeeder (wsV RX4 59 RX1 yX1_follow wsX1_follow) := goodIn_app (goodIn_of _ (by decide +kernel)) ggX4_isSoundWithFeeder_X1_follow
set_option maxRecDepth 20000 in
theorem ggX4_isSoundWithFeeder_X1_isSound : GoodIn wsX4_isSoundWithFeeder wsX1_isSound := goodIn_r _ [98, 99, 100, 101, 30, 102, 79, 37, 103, 45, 104, 121, 122, 123, 124, 125, 126, 127] (by decide +kernel) (by decide +kernel)
set_option maxRecDepth 20000 in
theorem gX4_isSoundWithFeeder_X1_isSound : GoodIn wsX4_isSoundWithFeeder (wsV RX4 141 RX1 yX1_isSound wsX1_isSound) := goodIn_app (goodIn_of _ (by decide +kernel)) ggX4_isSoundWithFeeder_X1_isSound
theorem dX4_isSoundWithFeeder_0 : decode cX4_isSoundWithFeeder 0 = .ok (.aload_n 0, 1) := by decide +kernel
theorem dX4_isSoundWithFeeder_1 : decode cX4_isSoundWithFeeder 1 = .ok (.getfield 37, 3) := by decide +kernel
theorem dX4_isSoundWithFeeder_4 : decode cX4_isSoundWithFeeder 4 = .ok (.aload_n 0, 1) := by decide +kernel
theorem dX4_isSoundWithFeeder_5 : decode cX4_isSoundWithFeeder 5 = .ok (.getfield 10, 3) := by decide +kernel
theorem dX4_isSoundWithFeeder_8 : decode cX4_isSoundWithFeeder 8 = .ok (.invokevirtual 189, 3) := by decide +kernel
theorem dX4_isSoundWithFeeder_11 : decode cX4_isSoundWithFeeder 11 = .ok (.aload_n 0, 1) := by decide +kernel
theorem dX4_isSoundWithFeeder_12 : decode cX4_isSoundWithFeeder 12 = .ok (.getfield 37, 3) := by decide +kernel
theorem dX4_isSoundWithFeeder_15 : decode cX4_isSoundWithFeeder 15 = .ok (.iload_n 2, 1) := by decide +kernel
theorem dX4_isSoundWithFeeder_16 : decode cX4_isSoundWithFeeder 16 = .ok (.iload_n 2, 1) := by decide +kernel
theorem dX4_isSoundWithFeeder_17 : decode cX4_isSoundWithFeeder 17 = .ok (.imul, 1) := by decide +kernel
theorem dX4_isSoundWithFeeder_18 : decode cX4_isSoundWithFeeder 18 = .ok (.iload_n 2, 1) := by decide +kernel
theorem dX4_isSoundWithFeeder_19 : decode cX4_isSoundWithFeeder 19 = .ok (.imul, 1) := by decide +kernel
theorem dX4_isSoundWithFeeder_20 : decode cX4_isSoundWithFeeder 20 = .ok (.iconst 5, 1) := by decide +kernel
theorem dX4_isSoundWithFeeder_21 : decode cX4_isSoundWithFeeder 21 = .ok (.iload_n 2, 1) := by decide +kernel
theorem dX4_isSoundWithFeeder_22 : decode cX4_isSoundWithFeeder 22 = .ok (.imul, 1) := by decide +kernel
theorem dX4_isSoundWithFeeder_23 : decode cX4_isSoundWithFeeder 23 = .ok (.iload_n 2, 1) := by decide +kernel
theorem dX4_isSoundWithFeeder_24 : decode cX4_isSoundWithFeeder 24 = .ok (.imul, 1) := by decide +kernel
theorem dX4_isSoundWithFeeder_25 : decode cX4_isSoundWithFeeder 25 = .ok (.iconst 0, 1) := by decide +kernel
theorem dX4_isSoundWithFeeder_26 : decode cX4_isSoundWithFeeder 26 = .ok (.iconst 1, 1) := by decide +kernel
theorem dX4_isSoundWithFeeder_27 : decode cX4_isSoundWithFeeder 27 = .ok (.invokevirtual 55, 3) := by decide +kernel
theorem dX4_isSoundWithFeeder_30 : decode cX4_isSoundWithFeeder 30 = .ok (.istore_n 3, 1) := by decide +kernel
theorem dX4_isSoundWithFeeder_31 : decode cX4_isSoundWithFeeder 31 = .ok (.aload_n 0, 1) := by decide +kernel
theorem dX4_isSoundWithFeeder_32 : decode cX4_isSoundWithFeeder 32 = .ok (.getfield 37, 3) := by decide +kernel
theorem dX4_isSoundWithFeeder_35 : decode cX4_isSoundWithFeeder 35 = .ok (.iload_n 1, 1) := by decide +kernel
theorem dX4_isSoundWithFeeder_36 : decode cX4_isSoundWithFeeder 36 = .ok (.iload_n 3, 1) := by decide +kernel
theorem dX4_isSoundWithFeeder_37 : decode cX4_isSoundWithFeeder 37 = .ok (.invokevirtual 102, 3) := by decide +kernel
theorem dX4_isSoundWithFeeder_40 : decode cX4_isSoundWithFeeder 40 = .ok (.pop, 1) := by decide +kernel
theorem dX4_isSoundWithFeeder_41 : decode cX4_isSoundWithFeeder 41 = .ok (.aload_n 0, 1) := by decide +kernel
theorem dX4_isSoundWithFeeder_42 : decode cX4_isSoundWithFeeder 42 = .ok (.getfield 40, 3) := by decide +kernel
theorem dX4_isSoundWithFeeder_45 : decode cX4_isSoundWithFeeder 45 = .ok (.aload_n 0, 1) := by decide +kernel
theorem dX4_isSoundWithFeeder_46 : decode cX4_isSoundWithFeeder 46 = .ok (.getfield 37, 3) := by decide +kernel
theorem dX4_isSoundWithFeeder_49 : decode cX4_isSoundWithFeeder 49 = .ok (.invokevirtual 59, 3) := by decide +kernel
theorem dX4_isSoundWithFeeder_52 : decode cX4_isSoundWithFeeder 52 = .ok (.aload_n 0, 1) := by decide +kernel
theorem dX4_isSoundWithFeeder_53 : decode cX4_isSoundWithFeeder 53 = .ok (.getfield 40, 3) := by decide +kernel
theorem dX4_isSoundWithFeeder_56 : decode cX4_isSoundWithFeeder 56 = .ok (.invokevirtual 141, 3) := by decide +kernel
theorem dX4_isSoundWithFeeder_59 : decode cX4_isSoundWithFeeder 59 = .ok (.ireturn, 1) := by decide +kernel
set_option maxRecDepth 20000 in
theorem ggX4_undo_X2_isEmpty : GoodIn wsX4_undo wsX2_isEmpty := goodIn_r _ [9, 10, 109, 110] (by decide +kernel) (by decide +kernel)
set_option maxRecDepth 20000 in
theorem gX4_undo_X2_isEmpty : GoodIn wsX4_undo (wsV RX4 195 RX2 yX2_isEmpty wsX2_isEmpty) := goodIn_app (goodIn_of _ (by decide +kernel)) ggX4_undo_X2_isEmpty
set_option maxRecDepth 20000 in
theorem ggX4_undo_X2_restore : GoodIn wsX4_undo wsX2_restore := goodIn_r _ [14, 10, 15, 16, 17, 8, 18, 19, 20, 21, 22, 23, 24, 25, 26, 27, 28, 29, 30, 31, 32, 33, 34, 109, 110, 111, 112, 113, 114, 115, 116, 117, 118, 119, 120] (by decide +kernel) (by decide +kernel)
set_option maxRecDepth 20000 in
theorem gX4_undo_X2_restore : GoodIn wsX4_undo (wsV RX4 198 RX2 yX2_restore wsX2_restore) := goodIn_app (goodIn_of _ (by decide +kernel)) ggX4_undo_X2_restore
set_option maxRecDepth 20000 in
theorem ggX4_undo_X1_follow : GoodIn wsX4_undo wsX1_follow := goodIn_r _ [39, 40, 41, 42, 43, 44, 45, 46, 47, 48, 49, 50, 23, 51, 29, 25, 52, 53, 54, 55, 56, 57, 58, 30, 31, 59, 60, 61, 62, 63, 38, 64, 65, 66, 67, 68, 69, 70, 71, 72, 73, 74, 75, 76, 77, 78, 79, 80, 81, 27, 82, 83, 84, 85, 86, 87, 88, 89, 90, 91, 92, 93, 94, 28, 95, 96, 97, 98, 32, 99, 100, 101, 102, 111, 112, 113, 114, 115, 116, 117, 118, 119, 120, 121, 122, 123, 124, 125, 126, 127] (by decide +kernel) (by decide +kernel)
set_option maxRecDepth 20000 in
theorem gX4_undo_X1_follow : GoodIn wsX4_undo (wsV RX4 59 RX1 yX1_follow wsX1_follow) := goodIn_app (goodIn_of _ (by decide +kernel)) ggX4_undo_X1_follow
theorem dX4_undo_0 : decode cX4_undo 0 = .ok (.aload_n 0, 1) := by decide +kernel
theorem dX4_undo_1 : decode cX4_undo 1 = .ok (.getfield 26, 3) := by decide +kernel
theorem dX4_undo_4 : decode cX4_undo 4 = .ok (.invokevirtual 195, 3) := by decide +kernel
theorem dX4_undo_7 : decode cX4_undo 7 = .ok (.ifCond .eq 6, 3) := by decide +kernel
theorem dX4_undo_10 : decode cX4_undo 10 = .ok (.bipush (-4), 2) := by decide +kernel
theorem dX4_undo_12 : decode cX4_undo 12 = .ok (.ireturn, 1) := by decide +kernel
theorem dX4_undo_13 : decode cX4_undo 13 = .ok (.aload_n 0, 1) := by decide +kernel
theorem dX4_undo_14 : decode cX4_undo 14 = .ok (.getfield 26, 3) := by decide +kernel
theorem dX4_undo_17 : decode cX4_undo 17 = .ok (.aload_n 0, 1) := by decide +kernel
theorem dX4_undo_18 : decode cX4_undo 18 = .ok (.getfield 10, 3) := by decide +kernel
theorem dX4_undo_21 : decode cX4_undo 21 = .ok (.invokevirtual 198, 3) := by decide +kernel
theorem dX4_undo_24 : decode cX4_undo 24 = .ok (.aload_n 0, 1) := by decide +kernel
theorem dX4_undo_25 : decode cX4_undo 25 = .ok (.getfield 19, 3) := by decide +kernel
theorem dX4_undo_28 : decode cX4_undo 28 = .ok (.aload_n 0, 1) := by decide +kernel
theorem dX4_undo_29 : decode cX4_undo 29 = .ok (.getfield 10, 3) := by decide +kernel
theorem dX4_undo_32 : decode cX4_undo 32 = .ok (.invokevirtual 59, 3) := by decide +kernel
theorem dX4_undo_35 : decode cX4_undo 35 = .ok (.aload_n 0, 1) := by decide +kernel
theorem dX4_undo_36 : decode cX4_undo 36 = .ok (.getfield 26, 3) := by decide +kernel
theorem dX4_undo_39 : decode cX4_undo 39 = .ok (.getfield 201, 3) := by decide +kernel
theorem dX4_undo_42 : decode cX4_undo 42 = .ok (.ireturn, 1) := by decide +kernel
set_option maxRecDepth 20000 in
theorem ggX4_load_X0_copyFrom : GoodIn wsX4_load wsX0_copyFrom := goodIn_r _ [11, 12, 13, 14, 15, 16, 17, 18, 19, 20, 21, 189, 190, 191, 192, 193, 194, 195, 196, 197, 198] (by decide +kernel) (by decide +kernel)
set_option maxRecDepth 20000 in
theorem gX4_load_X0_copyFrom : GoodIn wsX4_load (wsV RX4 189 RX0 yX0_copyFrom wsX0_copyFrom) := goodIn_app (goodIn_of _ (by decide +kernel)) ggX4_load_X0_copyFrom
set_option maxRecDepth 20000 in
theorem ggX4_load_X3_readInto : GoodIn wsX4_load wsX3_readInto := goodIn_r _ [26, 27, 28, 29, 30, 31, 32, 25, 33, 34, 35, 36, 37, 38, 39, 40, 41, 42, 43, 44, 45, 46, 47, 48, 49, 10, 50, 12, 51, 52, 53, 54, 13, 55, 56, 57, 58, 59, 60, 61, 62, 63, 64, 65, 66, 67, 68, 69, 70, 71, 72, 73, 16, 17, 18, 19, 74, 75, 76, 77, 78, 79, 80, 81, 82, 83, 84, 85, 86, 20, 21, 87, 88, 89, 90, 91, 92, 93, 94, 95, 96, 184, 185, 186, 187, 188, 189, 190, 191, 192, 193, 194, 195, 196, 197, 198] (by decide +kernel) (by decide +kernel)
set_option maxRecDepth 20000 in
theorem gX4_load_X3_readInto : GoodIn wsX4_load (wsV RX4 209 RX3 yX3_readInto wsX3_readInto) := goodIn_app (goodIn_of _ (by decide +kernel)) ggX4_load_X3_readInto
set_option maxRecDepth 20000 in
theorem ggX4_load_X2_keep : GoodIn wsX4_load wsX2_keep := goodIn_r _ [101, 102, 103, 104, 105, 106, 100, 107, 108, 109, 110, 111, 112, 8, 9, 10, 11, 12, 13, 14, 15, 16, 17, 18, 19, 20, 21, 199, 200, 189, 190, 191, 192, 193, 194, 195, 196, 197, 198] (by decide +kernel) (by decide +kernel)
set_option maxRecDepth 20000 in
theorem gX4_load_X2_keep : GoodIn wsX4_load (wsV RX4 51 RX2 yX2_keep wsX2_keep) := goodIn_app (goodIn_of _ (by decide +kernel)) ggX4_load_X2_keep
set_option maxRecDepth 20000 in
theorem ggX4_load_X1_follow : GoodIn wsX4_load wsX1_follow := goodIn_r _ [117, 118, 119, 120, 121, 122, 123, 124, 125, 126, 127, 128, 10, 129, 16, 12, 87, 64, 88, 130, 131, 132, 133, 17, 18, 134, 135, 136, 137, 138, 116, 139, 140, 141, 142, 143, 144, 145, 146, 147, 148, 149, 150, 151, 152, 153, 154, 155, 156, 14, 157, 158, 159, 160, 161, 162, 163, 164, 165, 166, 167, 168, 169, 15, 170, 171, 172, 173, 19, 174, 175, 176, 177, 189, 190, 191, 192, 193, 194, 195, 196, 197, 198, 201, 202, 203, 204, 205, 206, 207] (by decide +kernel) (by decide +kernel)
set_option maxRecDepth 20000 in
theorem gX4_load_X1_follow : GoodIn wsX4_load (wsV RX4 59 RX1 yX1_follow wsX1_follow) := goodIn_app (goodIn_of _ (by decide +kernel)) ggX4_load_X1_follow
theorem dX4_load_0 : decode cX4_load 0 = .ok (.aload_n 0, 1) := by decide +kernel
theorem dX4_load_1 : decode cX4_load 1 = .ok (.getfield 37, 3) := by decide +kernel
theorem dX4_load_4 : decode cX4_load 4 = .ok (.aload_n 0, 1) := by decide +kernel
theorem dX4_load_5 : decode cX4_load 5 = .ok (.getfield 10, 3) := by decide +kernel
theorem dX4_load_8 : decode cX4_load 8 = .ok (.invokevirtual 189, 3) := by decide +kernel
theorem dX4_load_11 : decode cX4_load 11 = .ok (.aload_n 0, 1) := by decide +kernel
theorem dX4_load_12 : decode cX4_load 12 = .ok (.getfield 33, 3) := by decide +kernel
theorem dX4_load_15 : decode cX4_load 15 = .ok (.aload_n 0, 1) := by decide +kernel
theorem dX4_load_16 : decode cX4_load 16 = .ok (.getfield 37, 3) := by decide +kernel
theorem dX4_load_19 : decode cX4_load 19 = .ok (.invokevirtual 209, 3) := by decide +kernel
theorem dX4_load_22 : decode cX4_load 22 = .ok (.iconst (-1), 1) := by decide +kernel
theorem dX4_load_23 : decode cX4_load 23 = .ok (.if_icmp .eq 6, 3) := by decide +kernel
theorem dX4_load_26 : decode cX4_load 26 = .ok (.bipush (-4), 2) := by decide +kernel
theorem dX4_load_28 : decode cX4_load 28 = .ok (.ireturn, 1) := by decide +kernel
theorem dX4_load_29 : decode cX4_load 29 = .ok (.aload_n 0, 1) := by decide +kernel
theorem dX4_load_30 : decode cX4_load 30 = .ok (.getfield 26, 3) := by decide +kernel
theorem dX4_load_33 : decode cX4_load 33 = .ok (.aload_n 0, 1) := by decide +kernel
theorem dX4_load_34 : decode cX4_load 34 = .ok (.getfield 10, 3) := by decide +kernel
theorem dX4_load_37 : decode cX4_load 37 = .ok (.invokevirtual 51, 3) := by decide +kernel
theorem dX4_load_40 : decode cX4_load 40 = .ok (.aload_n 0, 1) := by decide +kernel
theorem dX4_load_41 : decode cX4_load 41 = .ok (.getfield 10, 3) := by decide +kernel
theorem dX4_load_44 : decode cX4_load 44 = .ok (.aload_n 0, 1) := by decide +kernel
theorem dX4_load_45 : decode cX4_load 45 = .ok (.getfield 37, 3) := by decide +kernel
theorem dX4_load_48 : decode cX4_load 48 = .ok (.invokevirtual 189, 3) := by decide +kernel
theorem dX4_load_51 : decode cX4_load 51 = .ok (.aload_n 0, 1) := by decide +kernel
theorem dX4_load_52 : decode cX4_load 52 = .ok (.getfield 19, 3) := by decide +kernel
theorem dX4_load_55 : decode cX4_load 55 = .ok (.aload_n 0, 1) := by decide +kernel
theorem dX4_load_56 : decode cX4_load 56 = .ok (.getfield 10, 3) := by decide +kernel
theorem dX4_load_59 : decode cX4_load 59 = .ok (.invokevirtual 59, 3) := by decide +kernel
theorem dX4_load_62 : decode cX4_load 62 = .ok (.aload_n 0, 1) := by decide +kernel
theorem dX4_load_63 : decode cX4_load 63 = .ok (.getfield 33, 3) := by decide +kernel
theorem dX4_load_66 : decode cX4_load 66 = .ok (.getfield 213, 3) := by decide +kernel
theorem dX4_load_69 : decode cX4_load 69 = .ok (.ireturn, 1) := by decide +kernel
set_option maxRecDepth 20000 in
theorem ggX4_digest_X4_count : GoodIn wsX4_digest wsX4_count := goodIn_r _ [10, 3, 4, 5, 11, 12, 13, 14, 15, 16, 17, 18, 19, 20, 21, 22, 23, 24, 25, 26, 27, 28, 29, 30, 31, 32, 33, 34, 35, 36, 37, 38, 9, 39, 40, 41, 42, 43, 44, 45, 46, 47, 48, 49, 50, 51, 52, 53, 54, 55, 56, 95, 96, 97, 98, 99, 100, 101, 102, 103, 104, 105, 106, 107, 108, 109, 110, 111, 112, 113, 114, 115, 116, 117] (by decide +kernel) (by decide +kernel)
set_option maxRecDepth 20000 in
theorem gX4_digest_X4_count : GoodIn wsX4_digest (wsV RX4 220 RX4 yX4_count wsX4_count) := goodIn_app (goodIn_of _ (by decide +kernel)) ggX4_digest_X4_count
set_option maxRecDepth 20000 in
theorem ggX4_digest_X4_section : GoodIn wsX4_digest wsX4_section := goodIn_r _ [60, 3, 61, 62, 63, 13, 64, 65, 14, 66, 67, 68, 27, 28, 18, 29, 20, 69, 50, 9, 51, 70, 22, 23, 24, 25, 26, 30, 31, 32, 33, 34, 35, 36, 71, 72, 73, 74, 75, 76, 77, 78, 79, 80, 81, 95, 96, 97, 98, 99, 100, 101, 102, 103, 104, 105, 106, 107, 108, 109, 110, 111, 112, 113, 114, 115, 116, 117] (by decide +kernel) (by decide +kernel)
set_option maxRecDepth 20000 in
theorem gX4_digest_X4_section : GoodIn wsX4_digest (wsV RX4 223 RX4 yX4_section wsX4_section) := goodIn_app (goodIn_of _ (by decide +kernel)) ggX4_digest_X4_section
set_option maxRecDepth 20000 in
theorem ggX4_digest_X4_joint : GoodIn wsX4_digest wsX4_joint := goodIn_r _ [85, 3, 86, 87, 88, 89, 90, 18, 91, 75, 92, 93, 9, 94, 69, 50, 51, 95, 96, 97, 98, 99, 100, 101, 102, 103, 104, 105, 106, 107, 108, 109, 110] (by decide +kernel) (by decide +kernel)
set_option maxRecDepth 20000 in
theorem gX4_digest_X4_joint : GoodIn wsX4_digest (wsV RX4 226 RX4 yX4_joint wsX4_joint) := goodIn_app (goodIn_of _ (by decide +kernel)) ggX4_digest_X4_joint
theorem dX4_digest_0 : decode cX4_digest 0 = .ok (.ldc2_w 216, 3) := by decide +kernel
theorem dX4_digest_3 : decode cX4_digest 3 = .ok (.lstore_n 1, 1) := by decide +kernel
theorem dX4_digest_4 : decode cX4_digest 4 = .ok (.iconst 0, 1) := by decide +kernel
theorem dX4_digest_5 : decode cX4_digest 5 = .ok (.istore_n 3, 1) := by decide +kernel
theorem dX4_digest_6 : decode cX4_digest 6 = .ok (.iload_n 3, 1) := by decide +kernel
theorem dX4_digest_7 : decode cX4_digest 7 = .ok (.bipush 10, 2) := by decide +kernel
theorem dX4_digest_9 : decode cX4_digest 9 = .ok (.if_icmp .ge 22, 3) := by decide +kernel
theorem dX4_digest_12 : decode cX4_digest 12 = .ok (.ldc2_w 218, 3) := by decide +kernel
theorem dX4_digest_15 : decode cX4_digest 15 = .ok (.lload_n 1, 1) := by decide +kernel
theorem dX4_digest_16 : decode cX4_digest 16 = .ok (.lmul, 1) := by decide +kernel
theorem dX4_digest_17 : decode cX4_digest 17 = .ok (.aload_n 0, 1) := by decide +kernel
theorem dX4_digest_18 : decode cX4_digest 18 = .ok (.iload_n 3, 1) := by decide +kernel
theorem dX4_digest_19 : decode cX4_digest 19 = .ok (.invokevirtual 220, 3) := by decide +kernel
theorem dX4_digest_22 : decode cX4_digest 22 = .ok (.i2l, 1) := by decide +kernel
theorem dX4_digest_23 : decode cX4_digest 23 = .ok (.ladd, 1) := by decide +kernel
theorem dX4_digest_24 : decode cX4_digest 24 = .ok (.lstore_n 1, 1) := by decide +kernel
theorem dX4_digest_25 : decode cX4_digest 25 = .ok (.iinc 3 1, 3) := by decide +kernel
theorem dX4_digest_28 : decode cX4_digest 28 = .ok (.goto (-22), 3) := by decide +kernel
theorem dX4_digest_31 : decode cX4_digest 31 = .ok (.iconst 0, 1) := by decide +kernel
theorem dX4_digest_32 : decode cX4_digest 32 = .ok (.istore_n 3, 1) := by decide +kernel
theorem dX4_digest_33 : decode cX4_digest 33 = .ok (.iload_n 3, 1) := by decide +kernel
theorem dX4_digest_34 : decode cX4_digest 34 = .ok (.aload_n 0, 1) := by decide +kernel
theorem dX4_digest_35 : decode cX4_digest 35 = .ok (.getfield 10, 3) := by decide +kernel
theorem dX4_digest_38 : decode cX4_digest 38 = .ok (.getfield 91, 3) := by decide +kernel
theorem dX4_digest_41 : decode cX4_digest 41 = .ok (.if_icmp .ge 40, 3) := by decide +kernel
theorem dX4_digest_44 : decode cX4_digest 44 = .ok (.iconst 0, 1) := by decide +kernel
theorem dX4_digest_45 : decode cX4_digest 45 = .ok (.istore 4, 2) := by decide +kernel
theorem dX4_digest_47 : decode cX4_digest 47 = .ok (.iload 4, 2) := by decide +kernel
theorem dX4_digest_49 : decode cX4_digest 49 = .ok (.bipush 11, 2) := by decide +kernel
theorem dX4_digest_51 : decode cX4_digest 51 = .ok (.if_icmp .ge 24, 3) := by decide +kernel
theorem dX4_digest_54 : decode cX4_digest 54 = .ok (.ldc2_w 218, 3) := by decide +kernel
theorem dX4_digest_57 : decode cX4_digest 57 = .ok (.lload_n 1, 1) := by decide +kernel
theorem dX4_digest_58 : decode cX4_digest 58 = .ok (.lmul, 1) := by decide +kernel
theorem dX4_digest_59 : decode cX4_digest 59 = .ok (.aload_n 0, 1) := by decide +kernel
theorem dX4_digest_60 : decode cX4_digest 60 = .ok (.iload_n 3, 1) := by decide +kernel
theorem dX4_digest_61 : decode cX4_digest 61 = .ok (.iload 4, 2) := by decide +kernel
theorem dX4_digest_63 : decode cX4_digest 63 = .ok (.invokevirtual 223, 3) := by decide +kernel
theorem dX4_digest_66 : decode cX4_digest 66 = .ok (.i2l, 1) := by decide +kernel
theorem dX4_digest_67 : decode cX4_digest 67 = .ok (.ladd, 1) := by decide +kernel
theorem dX4_digest_68 : decode cX4_digest 68 = .ok (.lstore_n 1, 1) := by decide +kernel
theorem dX4_digest_69 : decode cX4_digest 69 = .ok (.iinc 4 1, 3) := by decide +kernel
theorem dX4_digest_72 : decode cX4_digest 72 = .ok (.goto (-25), 3) := by decide +kernel
theorem dX4_digest_75 : decode cX4_digest 75 = .ok (.iinc 3 1, 3) := by decide +kernel
theorem dX4_digest_78 : decode cX4_digest 78 = .ok (.goto (-45), 3) := by decide +kernel
theorem dX4_digest_81 : decode cX4_digest 81 = .ok (.iconst 0, 1) := by decide +kernel
theorem dX4_digest_82 : decode cX4_digest 82 = .ok (.istore_n 3, 1) := by decide +kernel
theorem dX4_digest_83 : decode cX4_digest 83 = .ok (.iload_n 3, 1) := by decide +kernel
theorem dX4_digest_84 : decode cX4_digest 84 = .ok (.aload_n 0, 1) := by decide +kernel
theorem dX4_digest_85 : decode cX4_digest 85 = .ok (.getfield 10, 3) := by decide +kernel
theorem dX4_digest_88 : decode cX4_digest 88 = .ok (.getfield 112, 3) := by decide +kernel
theorem dX4_digest_91 : decode cX4_digest 91 = .ok (.if_icmp .ge 37, 3) := by decide +kernel
theorem dX4_digest_94 : decode cX4_digest 94 = .ok (.ldc2_w 218, 3) := by decide +kernel
theorem dX4_digest_97 : decode cX4_digest 97 = .ok (.lload_n 1, 1) := by decide +kernel
theorem dX4_digest_98 : decode cX4_digest 98 = .ok (.lmul, 1) := by decide +kernel
theorem dX4_digest_99 : decode cX4_digest 99 = .ok (.aload_n 0, 1) := by decide +kernel
theorem dX4_digest_100 : decode cX4_digest 100 = .ok (.iload_n 3, 1) := by decide +kernel
theorem dX4_digest_101 : decode cX4_digest 101 = .ok (.iconst 0, 1) := by decide +kernel
theorem dX4_digest_102 : decode cX4_digest 102 = .ok (.invokevirtual 226, 3) := by decide +kernel
theorem dX4_digest_105 : decode cX4_digest 105 = .ok (.i2l, 1) := by decide +kernel
theorem dX4_digest_106 : decode cX4_digest 106 = .ok (.ladd, 1) := by decide +kernel
theorem dX4_digest_107 : decode cX4_digest 107 = .ok (.lstore_n 1, 1) := by decide +kernel
theorem dX4_digest_108 : decode cX4_digest 108 = .ok (.ldc2_w 218, 3) := by decide +kernel
theorem dX4_digest_111 : decode cX4_digest 111 = .ok (.lload_n 1, 1) := by decide +kernel
theorem dX4_digest_112 : decode cX4_digest 112 = .ok (.lmul, 1) := by decide +kernel
theorem dX4_digest_113 : decode cX4_digest 113 = .ok (.aload_n 0, 1) := by decide +kernel
theorem dX4_digest_114 : decode cX4_digest 114 = .ok (.iload_n 3, 1) := by decide +kernel
theorem dX4_digest_115 : decode cX4_digest 115 = .ok (.iconst 1, 1) := by decide +kernel
theorem dX4_digest_116 : decode cX4_digest 116 = .ok (.invokevirtual 226, 3) := by decide +kernel
theorem dX4_digest_119 : decode cX4_digest 119 = .ok (.i2l, 1) := by decide +kernel
theorem dX4_digest_120 : decode cX4_digest 120 = .ok (.ladd, 1) := by decide +kernel
theorem dX4_digest_121 : decode cX4_digest 121 = .ok (.lstore_n 1, 1) := by decide +kernel
theorem dX4_digest_122 : decode cX4_digest 122 = .ok (.iinc 3 1, 3) := by decide +kernel
theorem dX4_digest_125 : decode cX4_digest 125 = .ok (.goto (-42), 3) := by decide +kernel
theorem dX4_digest_128 : decode cX4_digest 128 = .ok (.lload_n 1, 1) := by decide +kernel
theorem dX4_digest_129 : decode cX4_digest 129 = .ok (.lreturn, 1) := by decide +kernel
theorem dX4_isWithin_0 : decode cX4_isWithin 0 = .ok (.iload_n 0, 1) := by decide +kernel
theorem dX4_isWithin_1 : decode cX4_isWithin 1 = .ok (.iload_n 1, 1) := by decide +kernel
theorem dX4_isWithin_2 : decode cX4_isWithin 2 = .ok (.if_icmp .lt 12, 3) := by decide +kernel
theorem dX4_isWithin_5 : decode cX4_isWithin 5 = .ok (.iload_n 0, 1) := by decide +kernel
theorem dX4_isWithin_6 : decode cX4_isWithin 6 = .ok (.iload_n 2, 1) := by decide +kernel
theorem dX4_isWithin_7 : decode cX4_isWithin 7 = .ok (.if_icmp .gt 7, 3) := by decide +kernel
theorem dX4_isWithin_10 : decode cX4_isWithin 10 = .ok (.iconst 1, 1) := by decide +kernel
theorem dX4_isWithin_11 : decode cX4_isWithin 11 = .ok (.goto 4, 3) := by decide +kernel
theorem dX4_isWithin_14 : decode cX4_isWithin 14 = .ok (.iconst 0, 1) := by decide +kernel
theorem dX4_isWithin_15 : decode cX4_isWithin 15 = .ok (.ireturn, 1) := by decide +kernel
set_option maxRecDepth 20000 in
theorem ggX4_isSize_X4_isWithin : GoodIn wsX4_isSize wsX4_isWithin := goodIn_r _ [4] (by decide +kernel) (by decide +kernel)
set_option maxRecDepth 20000 in
theorem gX4_isSize_X4_isWithin : GoodIn wsX4_isSize (va_wsS RX4 80 yX4_isWithin wsX4_isWithin) := goodIn_app (goodIn_of _ (by decide +kernel)) ggX4_isSize_X4_isWithin
theorem dX4_isSize_0 : decode cX4_isSize 0 = .ok (.iload_n 0, 1) := by decide +kernel
theorem dX4_isSize_1 : decode cX4_isSize 1 = .ok (.iconst 1, 1) := by decide +kernel
theorem dX4_isSize_2 : decode cX4_isSize 2 = .ok (.sipush 5000, 3) := by decide +kernel
theorem dX4_isSize_5 : decode cX4_isSize 5 = .ok (.invokestatic 80, 3) := by decide +kernel
theorem dX4_isSize_8 : decode cX4_isSize 8 = .ok (.ireturn, 1) := by decide +kernel
theorem dX4_at_0 : decode cX4_at 0 = .ok (.iload_n 1, 1) := by decide +kernel
theorem dX4_at_1 : decode cX4_at 1 = .ok (.ifCond .lt 15, 3) := by decide +kernel
theorem dX4_at_4 : decode cX4_at 4 = .ok (.iload_n 1, 1) := by decide +kernel
theorem dX4_at_5 : decode cX4_at 5 = .ok (.aload_n 0, 1) := by decide +kernel
theorem dX4_at_6 : decode cX4_at 6 = .ok (.arraylength, 1) := by decide +kernel
theorem dX4_at_7 : decode cX4_at 7 = .ok (.if_icmp .ge 9, 3) := by decide +kernel
theorem dX4_at_10 : decode cX4_at 10 = .ok (.aload_n 0, 1) := by decide +kernel
theorem dX4_at_11 : decode cX4_at 11 = .ok (.iload_n 1, 1) := by decide +kernel
theorem dX4_at_12 : decode cX4_at 12 = .ok (.iaload, 1) := by decide +kernel
theorem dX4_at_13 : decode cX4_at 13 = .ok (.goto 4, 3) := by decide +kernel
theorem dX4_at_16 : decode cX4_at 16 = .ok (.iconst (-1), 1) := by decide +kernel
theorem dX4_at_17 : decode cX4_at 17 = .ok (.ireturn, 1) := by decide +kernel
theorem dX4_put_0 : decode cX4_put 0 = .ok (.iload_n 1, 1) := by decide +kernel
theorem dX4_put_1 : decode cX4_put 1 = .ok (.ifCond .lt 13, 3) := by decide +kernel
theorem dX4_put_4 : decode cX4_put 4 = .ok (.iload_n 1, 1) := by decide +kernel
theorem dX4_put_5 : decode cX4_put 5 = .ok (.aload_n 0, 1) := by decide +kernel
theorem dX4_put_6 : decode cX4_put 6 = .ok (.arraylength, 1) := by decide +kernel
theorem dX4_put_7 : decode cX4_put 7 = .ok (.if_icmp .ge 7, 3) := by decide +kernel
theorem dX4_put_10 : decode cX4_put 10 = .ok (.aload_n 0, 1) := by decide +kernel
theorem dX4_put_11 : decode cX4_put 11 = .ok (.iload_n 1, 1) := by decide +kernel
theorem dX4_put_12 : decode cX4_put 12 = .ok (.iload_n 2, 1) := by decide +kernel
theorem dX4_put_13 : decode cX4_put 13 = .ok (.iastore, 1) := by decide +kernel
theorem dX4_put_14 : decode cX4_put 14 = .ok (.return_, 1) := by decide +kernel
theorem dX4_sum_0 : decode cX4_sum 0 = .ok (.iconst 0, 1) := by decide +kernel
theorem dX4_sum_1 : decode cX4_sum 1 = .ok (.istore_n 2, 1) := by decide +kernel
theorem dX4_sum_2 : decode cX4_sum 2 = .ok (.iconst 0, 1) := by decide +kernel
theorem dX4_sum_3 : decode cX4_sum 3 = .ok (.istore_n 3, 1) := by decide +kernel
theorem dX4_sum_4 : decode cX4_sum 4 = .ok (.iload_n 3, 1) := by decide +kernel
theorem dX4_sum_5 : decode cX4_sum 5 = .ok (.iload_n 1, 1) := by decide +kernel
theorem dX4_sum_6 : decode cX4_sum 6 = .ok (.if_icmp .ge 21, 3) := by decide +kernel
theorem dX4_sum_9 : decode cX4_sum 9 = .ok (.iload_n 3, 1) := by decide +kernel
theorem dX4_sum_10 : decode cX4_sum 10 = .ok (.aload_n 0, 1) := by decide +kernel
theorem dX4_sum_11 : decode cX4_sum 11 = .ok (.arraylength, 1) := by decide +kernel
theorem dX4_sum_12 : decode cX4_sum 12 = .ok (.if_icmp .ge 15, 3) := by decide +kernel
theorem dX4_sum_15 : decode cX4_sum 15 = .ok (.iload_n 2, 1) := by decide +kernel
theorem dX4_sum_16 : decode cX4_sum 16 = .ok (.aload_n 0, 1) := by decide +kernel
theorem dX4_sum_17 : decode cX4_sum 17 = .ok (.iload_n 3, 1) := by decide +kernel
theorem dX4_sum_18 : decode cX4_sum 18 = .ok (.iaload, 1) := by decide +kernel
theorem dX4_sum_19 : decode cX4_sum 19 = .ok (.iadd, 1) := by decide +kernel
theorem dX4_sum_20 : decode cX4_sum 20 = .ok (.istore_n 2, 1) := by decide +kernel
theorem dX4_sum_21 : decode cX4_sum 21 = .ok (.iinc 3 1, 3) := by decide +kernel
theorem dX4_sum_24 : decode cX4_sum 24 = .ok (.goto (-20), 3) := by decide +kernel
theorem dX4_sum_27 : decode cX4_sum 27 = .ok (.iload_n 2, 1) := by decide +kernel
theorem dX4_sum_28 : decode cX4_sum 28 = .ok (.ireturn, 1) := by decide +kernel
theorem dX4_commonDivisor_0 : decode cX4_commonDivisor 0 = .ok (.iload_n 0, 1) := by decide +kernel
theorem dX4_commonDivisor_1 : decode cX4_commonDivisor 1 = .ok (.istore_n 2, 1) := by decide +kernel
theorem dX4_commonDivisor_2 : decode cX4_commonDivisor 2 = .ok (.iload_n 1, 1) := by decide +kernel
theorem dX4_commonDivisor_3 : decode cX4_commonDivisor 3 = .ok (.istore_n 3, 1) := by decide +kernel
theorem dX4_commonDivisor_4 : decode cX4_commonDivisor 4 = .ok (.iconst 0, 1) := by decide +kernel
theorem dX4_commonDivisor_5 : decode cX4_commonDivisor 5 = .ok (.istore 4, 2) := by decide +kernel
theorem dX4_commonDivisor_7 : decode cX4_commonDivisor 7 = .ok (.iload 4, 2) := by decide +kernel
theorem dX4_commonDivisor_9 : decode cX4_commonDivisor 9 = .ok (.sipush 1000, 3) := by decide +kernel
theorem dX4_commonDivisor_12 : decode cX4_commonDivisor 12 = .ok (.if_icmp .ge 23, 3) := by decide +kernel
theorem dX4_commonDivisor_15 : decode cX4_commonDivisor 15 = .ok (.iload_n 3, 1) := by decide +kernel
theorem dX4_commonDivisor_16 : decode cX4_commonDivisor 16 = .ok (.ifCond .eq 19, 3) := by decide +kernel
theorem dX4_commonDivisor_19 : decode cX4_commonDivisor 19 = .ok (.iload_n 2, 1) := by decide +kernel
theorem dX4_commonDivisor_20 : decode cX4_commonDivisor 20 = .ok (.iload_n 3, 1) := by decide +kernel
theorem dX4_commonDivisor_21 : decode cX4_commonDivisor 21 = .ok (.irem, 1) := by decide +kernel
theorem dX4_commonDivisor_22 : decode cX4_commonDivisor 22 = .ok (.istore 5, 2) := by decide +kernel
theorem dX4_commonDivisor_24 : decode cX4_commonDivisor 24 = .ok (.iload_n 3, 1) := by decide +kernel
theorem dX4_commonDivisor_25 : decode cX4_commonDivisor 25 = .ok (.istore_n 2, 1) := by decide +kernel
theorem dX4_commonDivisor_26 : decode cX4_commonDivisor 26 = .ok (.iload 5, 2) := by decide +kernel
theorem dX4_commonDivisor_28 : decode cX4_commonDivisor 28 = .ok (.istore_n 3, 1) := by decide +kernel
theorem dX4_commonDivisor_29 : decode cX4_commonDivisor 29 = .ok (.iinc 4 1, 3) := by decide +kernel
theorem dX4_commonDivisor_32 : decode cX4_commonDivisor 32 = .ok (.goto (-25), 3) := by decide +kernel
theorem dX4_commonDivisor_35 : decode cX4_commonDivisor 35 = .ok (.iload_n 2, 1) := by decide +kernel
theorem dX4_commonDivisor_36 : decode cX4_commonDivisor 36 = .ok (.ireturn, 1) := by decide +kernel
