theorem dX3_init_0 : decode cX3_init 0 = .ok (.aload_n 0, 1) := by decide +kernel
theorem dX3_init_1 : decode cX3_init 1 = .ok (.invokespecial 3, 3) := by decide +kernel
theorem dX3_init_4 : decode cX3_init 4 = .ok (.aload_n 0, 1) := by decide +kernel
theorem dX3_init_5 : decode cX3_init 5 = .ok (.bipush 120, 2) := by decide +kernel
theorem dX3_init_7 : decode cX3_init 7 = .ok (.newarray .int, 2) := by decide +kernel
theorem dX3_init_9 : decode cX3_init 9 = .ok (.putfield 9, 3) := by decide +kernel
theorem dX3_init_12 : decode cX3_init 12 = .ok (.aload_n 0, 1) := by decide +kernel
theorem dX3_init_13 : decode cX3_init 13 = .ok (.iconst 0, 1) := by decide +kernel
theorem dX3_init_14 : decode cX3_init 14 = .ok (.putfield 15, 3) := by decide +kernel
theorem dX3_init_17 : decode cX3_init 17 = .ok (.aload_n 0, 1) := by decide +kernel
theorem dX3_init_18 : decode cX3_init 18 = .ok (.iconst 0, 1) := by decide +kernel
theorem dX3_init_19 : decode cX3_init 19 = .ok (.putfield 19, 3) := by decide +kernel
theorem dX3_init_22 : decode cX3_init 22 = .ok (.aload_n 0, 1) := by decide +kernel
theorem dX3_init_23 : decode cX3_init 23 = .ok (.iconst 0, 1) := by decide +kernel
theorem dX3_init_24 : decode cX3_init 24 = .ok (.putfield 22, 3) := by decide +kernel
theorem dX3_init_27 : decode cX3_init 27 = .ok (.aload_n 0, 1) := by decide +kernel
theorem dX3_init_28 : decode cX3_init 28 = .ok (.iconst (-1), 1) := by decide +kernel
theorem dX3_init_29 : decode cX3_init 29 = .ok (.putfield 25, 3) := by decide +kernel
theorem dX3_init_32 : decode cX3_init 32 = .ok (.return_, 1) := by decide +kernel
set_option maxRecDepth 20000 in
theorem ggX3_readInto_X3_readItem : GoodIn wsX3_readInto wsX3_readItem := goodIn_r _ [8, 1, 2, 3, 9, 10, 11, 7, 12, 13, 14, 15, 16, 17, 18, 19, 20, 21, 22, 23, 24, 25, 26, 27, 28, 29, 30, 31, 32, 33, 34, 35, 36, 37, 38, 39, 40, 41, 42, 43, 44, 45, 46, 47, 48, 49, 50, 51, 52, 53, 54, 55, 56, 57, 58, 59, 60, 61, 62, 63, 64, 65, 66, 67, 68, 69, 70, 71, 72, 73, 74, 75, 76, 81, 82, 83, 84, 85, 86, 87, 88, 89, 90, 91, 92, 93, 94, 95] (by decide +kernel) (by decide +kernel)
set_option maxRecDepth 20000 in
theorem gX3_readInto_X3_readItem : GoodIn wsX3_readInto (wsV RX3 28 RX3 yX3_readItem wsX3_readItem) := goodIn_app (goodIn_of _ (by decide +kernel)) ggX3_readInto_X3_readItem
set_option maxRecDepth 20000 in
theorem ggX3_readInto_X3_isAtEnd : GoodIn wsX3_readInto wsX3_isAtEnd := goodIn_r _ [80, 9, 10, 11, 7, 12, 1, 13, 14, 15, 16, 17, 18, 81, 82, 83, 84, 85] (by decide +kernel) (by decide +kernel)
set_option maxRecDepth 20000 in
theorem gX3_readInto_X3_isAtEnd : GoodIn wsX3_readInto (wsV RX3 32 RX3 yX3_isAtEnd wsX3_isAtEnd) := goodIn_app (goodIn_of _ (by decide +kernel)) ggX3_readInto_X3_isAtEnd
set_option maxRecDepth 20000 in
theorem ggX3_readInto_X3_expect : GoodIn wsX3_readInto wsX3_expect := goodIn_r _ [47, 2, 1, 9, 10, 11, 7, 12, 13, 14, 15, 16, 17, 18, 81, 82, 83, 84, 85] (by decide +kernel) (by decide +kernel)
set_option maxRecDepth 20000 in
theorem gX3_readInto_X3_expect : GoodIn wsX3_readInto (wsV RX3 36 RX3 yX3_expect wsX3_expect) := goodIn_app (goodIn_of _ (by decide +kernel)) ggX3_readInto_X3_expect
theorem dX3_readInto_0 : decode cX3_readInto 0 = .ok (.aload_n 0, 1) := by decide +kernel
theorem dX3_readInto_1 : decode cX3_readInto 1 = .ok (.iconst 0, 1) := by decide +kernel
theorem dX3_readInto_2 : decode cX3_readInto 2 = .ok (.putfield 22, 3) := by decide +kernel
theorem dX3_readInto_5 : decode cX3_readInto 5 = .ok (.aload_n 0, 1) := by decide +kernel
theorem dX3_readInto_6 : decode cX3_readInto 6 = .ok (.iconst (-1), 1) := by decide +kernel
theorem dX3_readInto_7 : decode cX3_readInto 7 = .ok (.putfield 25, 3) := by decide +kernel
theorem dX3_readInto_10 : decode cX3_readInto 10 = .ok (.aload_n 0, 1) := by decide +kernel
theorem dX3_readInto_11 : decode cX3_readInto 11 = .ok (.iconst 0, 1) := by decide +kernel
theorem dX3_readInto_12 : decode cX3_readInto 12 = .ok (.putfield 19, 3) := by decide +kernel
theorem dX3_readInto_15 : decode cX3_readInto 15 = .ok (.iconst 1, 1) := by decide +kernel
theorem dX3_readInto_16 : decode cX3_readInto 16 = .ok (.istore_n 2, 1) := by decide +kernel
theorem dX3_readInto_17 : decode cX3_readInto 17 = .ok (.iconst 0, 1) := by decide +kernel
theorem dX3_readInto_18 : decode cX3_readInto 18 = .ok (.istore_n 3, 1) := by decide +kernel
theorem dX3_readInto_19 : decode cX3_readInto 19 = .ok (.iload_n 3, 1) := by decide +kernel
theorem dX3_readInto_20 : decode cX3_readInto 20 = .ok (.bipush 120, 2) := by decide +kernel
theorem dX3_readInto_22 : decode cX3_readInto 22 = .ok (.if_icmp .gt 63, 3) := by decide +kernel
theorem dX3_readInto_25 : decode cX3_readInto 25 = .ok (.iload_n 2, 1) := by decide +kernel
theorem dX3_readInto_26 : decode cX3_readInto 26 = .ok (.ifCond .eq 59, 3) := by decide +kernel
theorem dX3_readInto_29 : decode cX3_readInto 29 = .ok (.aload_n 0, 1) := by decide +kernel
theorem dX3_readInto_30 : decode cX3_readInto 30 = .ok (.aload_n 1, 1) := by decide +kernel
theorem dX3_readInto_31 : decode cX3_readInto 31 = .ok (.invokevirtual 28, 3) := by decide +kernel
theorem dX3_readInto_34 : decode cX3_readInto 34 = .ok (.aload_n 0, 1) := by decide +kernel
theorem dX3_readInto_35 : decode cX3_readInto 35 = .ok (.getfield 25, 3) := by decide +kernel
theorem dX3_readInto_38 : decode cX3_readInto 38 = .ok (.iconst (-1), 1) := by decide +kernel
theorem dX3_readInto_39 : decode cX3_readInto 39 = .ok (.if_icmp .ne 14, 3) := by decide +kernel
theorem dX3_readInto_42 : decode cX3_readInto 42 = .ok (.aload_n 0, 1) := by decide +kernel
theorem dX3_readInto_43 : decode cX3_readInto 43 = .ok (.invokevirtual 32, 3) := by decide +kernel
theorem dX3_readInto_46 : decode cX3_readInto 46 = .ok (.ifCond .ne 7, 3) := by decide +kernel
theorem dX3_readInto_49 : decode cX3_readInto 49 = .ok (.iconst 1, 1) := by decide +kernel
theorem dX3_readInto_50 : decode cX3_readInto 50 = .ok (.goto 4, 3) := by decide +kernel
theorem dX3_readInto_53 : decode cX3_readInto 53 = .ok (.iconst 0, 1) := by decide +kernel
theorem dX3_readInto_54 : decode cX3_readInto 54 = .ok (.istore_n 2, 1) := by decide +kernel
theorem dX3_readInto_55 : decode cX3_readInto 55 = .ok (.iload_n 2, 1) := by decide +kernel
theorem dX3_readInto_56 : decode cX3_readInto 56 = .ok (.ifCond .eq 23, 3) := by decide +kernel
theorem dX3_readInto_59 : decode cX3_readInto 59 = .ok (.aload_n 0, 1) := by decide +kernel
theorem dX3_readInto_60 : decode cX3_readInto 60 = .ok (.bipush 59, 2) := by decide +kernel
theorem dX3_readInto_62 : decode cX3_readInto 62 = .ok (.invokevirtual 36, 3) := by decide +kernel
theorem dX3_readInto_65 : decode cX3_readInto 65 = .ok (.aload_n 0, 1) := by decide +kernel
theorem dX3_readInto_66 : decode cX3_readInto 66 = .ok (.getfield 25, 3) := by decide +kernel
theorem dX3_readInto_69 : decode cX3_readInto 69 = .ok (.iconst (-1), 1) := by decide +kernel
theorem dX3_readInto_70 : decode cX3_readInto 70 = .ok (.if_icmp .ne 7, 3) := by decide +kernel
theorem dX3_readInto_73 : decode cX3_readInto 73 = .ok (.iconst 1, 1) := by decide +kernel
theorem dX3_readInto_74 : decode cX3_readInto 74 = .ok (.goto 4, 3) := by decide +kernel
theorem dX3_readInto_77 : decode cX3_readInto 77 = .ok (.iconst 0, 1) := by decide +kernel
theorem dX3_readInto_78 : decode cX3_readInto 78 = .ok (.istore_n 2, 1) := by decide +kernel
theorem dX3_readInto_79 : decode cX3_readInto 79 = .ok (.iinc 3 1, 3) := by decide +kernel
theorem dX3_readInto_82 : decode cX3_readInto 82 = .ok (.goto (-63), 3) := by decide +kernel
theorem dX3_readInto_85 : decode cX3_readInto 85 = .ok (.aload_n 0, 1) := by decide +kernel
theorem dX3_readInto_86 : decode cX3_readInto 86 = .ok (.getfield 25, 3) := by decide +kernel
theorem dX3_readInto_89 : decode cX3_readInto 89 = .ok (.ireturn, 1) := by decide +kernel
set_option maxRecDepth 20000 in
theorem ggX3_readItem_X3_next : GoodIn wsX3_readItem wsX3_next := goodIn_r _ [8, 1, 9, 10, 11, 7, 12, 13, 14, 73, 74, 75, 76, 77] (by decide +kernel) (by decide +kernel)
set_option maxRecDepth 20000 in
theorem gX3_readItem_X3_next : GoodIn wsX3_readItem (wsV RX3 40 RX3 yX3_next wsX3_next) := goodIn_app (goodIn_of _ (by decide +kernel)) ggX3_readItem_X3_next
set_option maxRecDepth 20000 in
theorem ggX3_readItem_X3_isDigit : GoodIn wsX3_readItem wsX3_isDigit := goodIn_r _ [17] (by decide +kernel) (by decide +kernel)
set_option maxRecDepth 20000 in
theorem gX3_readItem_X3_isDigit : GoodIn wsX3_readItem (va_wsS RX3 44 yX3_isDigit wsX3_isDigit) := goodIn_app (goodIn_of _ (by decide +kernel)) ggX3_readItem_X3_isDigit
set_option maxRecDepth 20000 in
theorem ggX3_readItem_X0_hasRoomForSection : GoodIn wsX3_readItem wsX0_hasRoomForSection := goodIn_r _ [22, 23, 78, 79, 80, 81, 82, 83, 84, 85, 86, 87] (by decide +kernel) (by decide +kernel)
set_option maxRecDepth 20000 in
theorem gX3_readItem_X0_hasRoomForSection : GoodIn wsX3_readItem (wsV RX3 48 RX0 yX0_hasRoomForSection wsX0_hasRoomForSection) := goodIn_app (goodIn_of _ (by decide +kernel)) ggX3_readItem_X0_hasRoomForSection
set_option maxRecDepth 20000 in
theorem ggX3_readItem_X0_hasRoomForJoint : GoodIn wsX3_readItem wsX0_hasRoomForJoint := goodIn_r _ [27, 28, 78, 79, 80, 81, 82, 83, 84, 85, 86, 87] (by decide +kernel) (by decide +kernel)
set_option maxRecDepth 20000 in
theorem gX3_readItem_X0_hasRoomForJoint : GoodIn wsX3_readItem (wsV RX3 53 RX0 yX0_hasRoomForJoint wsX0_hasRoomForJoint) := goodIn_app (goodIn_of _ (by decide +kernel)) ggX3_readItem_X0_hasRoomForJoint
set_option maxRecDepth 20000 in
theorem ggX3_readItem_X3_readSection : GoodIn wsX3_readItem wsX3_readSection := goodIn_r _ [32, 2, 1, 33, 34, 35, 7, 36, 4, 5, 6, 8, 9, 10, 11, 12, 13, 14, 15, 16, 17, 37, 38, 39, 40, 41, 42, 43, 44, 45, 46, 21, 47, 23, 48, 49, 50, 51, 73, 74, 75, 76, 77, 78, 79, 80, 81, 82, 83, 84, 85, 86, 87] (by decide +kernel) (by decide +kernel)
set_option maxRecDepth 20000 in
theorem gX3_readItem_X3_readSection : GoodIn wsX3_readItem (wsV RX3 56 RX3 yX3_readSection wsX3_readSection) := goodIn_app (goodIn_of _ (by decide +kernel)) ggX3_readItem_X3_readSection
set_option maxRecDepth 20000 in
theorem ggX3_readItem_X3_readJoint : GoodIn wsX3_readItem wsX3_readJoint := goodIn_r _ [55, 56, 1, 2, 33, 34, 35, 7, 36, 4, 5, 6, 8, 9, 10, 11, 12, 13, 14, 15, 16, 17, 37, 38, 39, 40, 41, 42, 43, 57, 58, 59, 21, 60, 28, 61, 62, 63, 64, 65, 66, 67, 68, 69, 70, 71, 72, 78, 79, 80, 81, 82, 83, 84, 85, 86, 87, 73, 74, 75, 76, 77] (by decide +kernel) (by decide +kernel)
set_option maxRecDepth 20000 in
theorem gX3_readItem_X3_readJoint : GoodIn wsX3_readItem (wsV RX3 60 RX3 yX3_readJoint wsX3_readJoint) := goodIn_app (goodIn_of _ (by decide +kernel)) ggX3_readItem_X3_readJoint
theorem dX3_readItem_0 : decode cX3_readItem 0 = .ok (.aload_n 0, 1) := by decide +kernel
theorem dX3_readItem_1 : decode cX3_readItem 1 = .ok (.invokevirtual 40, 3) := by decide +kernel
theorem dX3_readItem_4 : decode cX3_readItem 4 = .ok (.istore_n 2, 1) := by decide +kernel
theorem dX3_readItem_5 : decode cX3_readItem 5 = .ok (.iload_n 2, 1) := by decide +kernel
theorem dX3_readItem_6 : decode cX3_readItem 6 = .ok (.bipush 99, 2) := by decide +kernel
theorem dX3_readItem_8 : decode cX3_readItem 8 = .ok (.if_icmp .eq 9, 3) := by decide +kernel
theorem dX3_readItem_11 : decode cX3_readItem 11 = .ok (.iload_n 2, 1) := by decide +kernel
theorem dX3_readItem_12 : decode cX3_readItem 12 = .ok (.bipush 102, 2) := by decide +kernel
theorem dX3_readItem_14 : decode cX3_readItem 14 = .ok (.if_icmp .ne 7, 3) := by decide +kernel
theorem dX3_readItem_17 : decode cX3_readItem 17 = .ok (.iconst 1, 1) := by decide +kernel
theorem dX3_readItem_18 : decode cX3_readItem 18 = .ok (.goto 4, 3) := by decide +kernel
theorem dX3_readItem_21 : decode cX3_readItem 21 = .ok (.iconst 0, 1) := by decide +kernel
theorem dX3_readItem_22 : decode cX3_readItem 22 = .ok (.istore_n 3, 1) := by decide +kernel
theorem dX3_readItem_23 : decode cX3_readItem 23 = .ok (.iload_n 2, 1) := by decide +kernel
theorem dX3_readItem_24 : decode cX3_readItem 24 = .ok (.invokestatic 44, 3) := by decide +kernel
theorem dX3_readItem_27 : decode cX3_readItem 27 = .ok (.istore 4, 2) := by decide +kernel
theorem dX3_readItem_29 : decode cX3_readItem 29 = .ok (.iload_n 3, 1) := by decide +kernel
theorem dX3_readItem_30 : decode cX3_readItem 30 = .ok (.ifCond .eq 10, 3) := by decide +kernel
theorem dX3_readItem_33 : decode cX3_readItem 33 = .ok (.aload_n 1, 1) := by decide +kernel
theorem dX3_readItem_34 : decode cX3_readItem 34 = .ok (.invokevirtual 48, 3) := by decide +kernel
theorem dX3_readItem_37 : decode cX3_readItem 37 = .ok (.ifCond .ne 15, 3) := by decide +kernel
theorem dX3_readItem_40 : decode cX3_readItem 40 = .ok (.iload 4, 2) := by decide +kernel
theorem dX3_readItem_42 : decode cX3_readItem 42 = .ok (.ifCond .eq 14, 3) := by decide +kernel
theorem dX3_readItem_45 : decode cX3_readItem 45 = .ok (.aload_n 1, 1) := by decide +kernel
theorem dX3_readItem_46 : decode cX3_readItem 46 = .ok (.invokevirtual 53, 3) := by decide +kernel
theorem dX3_readItem_49 : decode cX3_readItem 49 = .ok (.ifCond .eq 7, 3) := by decide +kernel
theorem dX3_readItem_52 : decode cX3_readItem 52 = .ok (.iconst 1, 1) := by decide +kernel
theorem dX3_readItem_53 : decode cX3_readItem 53 = .ok (.goto 4, 3) := by decide +kernel
theorem dX3_readItem_56 : decode cX3_readItem 56 = .ok (.iconst 0, 1) := by decide +kernel
theorem dX3_readItem_57 : decode cX3_readItem 57 = .ok (.istore 5, 2) := by decide +kernel
theorem dX3_readItem_59 : decode cX3_readItem 59 = .ok (.iload 5, 2) := by decide +kernel
theorem dX3_readItem_61 : decode cX3_readItem 61 = .ok (.ifCond .ne 14, 3) := by decide +kernel
theorem dX3_readItem_64 : decode cX3_readItem 64 = .ok (.aload_n 0, 1) := by decide +kernel
theorem dX3_readItem_65 : decode cX3_readItem 65 = .ok (.aload_n 0, 1) := by decide +kernel
theorem dX3_readItem_66 : decode cX3_readItem 66 = .ok (.getfield 22, 3) := by decide +kernel
theorem dX3_readItem_69 : decode cX3_readItem 69 = .ok (.putfield 25, 3) := by decide +kernel
theorem dX3_readItem_72 : decode cX3_readItem 72 = .ok (.goto 41, 3) := by decide +kernel
theorem dX3_readItem_75 : decode cX3_readItem 75 = .ok (.iload_n 3, 1) := by decide +kernel
theorem dX3_readItem_76 : decode cX3_readItem 76 = .ok (.ifCond .eq 32, 3) := by decide +kernel
theorem dX3_readItem_79 : decode cX3_readItem 79 = .ok (.aload_n 0, 1) := by decide +kernel
theorem dX3_readItem_80 : decode cX3_readItem 80 = .ok (.dup, 1) := by decide +kernel
theorem dX3_readItem_81 : decode cX3_readItem 81 = .ok (.getfield 22, 3) := by decide +kernel
theorem dX3_readItem_84 : decode cX3_readItem 84 = .ok (.iconst 1, 1) := by decide +kernel
theorem dX3_readItem_85 : decode cX3_readItem 85 = .ok (.iadd, 1) := by decide +kernel
theorem dX3_readItem_86 : decode cX3_readItem 86 = .ok (.putfield 22, 3) := by decide +kernel
theorem dX3_readItem_89 : decode cX3_readItem 89 = .ok (.aload_n 0, 1) := by decide +kernel
theorem dX3_readItem_90 : decode cX3_readItem 90 = .ok (.aload_n 1, 1) := by decide +kernel
theorem dX3_readItem_91 : decode cX3_readItem 91 = .ok (.iload_n 2, 1) := by decide +kernel
theorem dX3_readItem_92 : decode cX3_readItem 92 = .ok (.bipush 102, 2) := by decide +kernel
theorem dX3_readItem_94 : decode cX3_readItem 94 = .ok (.if_icmp .ne 7, 3) := by decide +kernel
theorem dX3_readItem_97 : decode cX3_readItem 97 = .ok (.iconst 1, 1) := by decide +kernel
theorem dX3_readItem_98 : decode cX3_readItem 98 = .ok (.goto 4, 3) := by decide +kernel
theorem dX3_readItem_101 : decode cX3_readItem 101 = .ok (.iconst 0, 1) := by decide +kernel
theorem dX3_readItem_102 : decode cX3_readItem 102 = .ok (.invokevirtual 56, 3) := by decide +kernel
theorem dX3_readItem_105 : decode cX3_readItem 105 = .ok (.goto 8, 3) := by decide +kernel
theorem dX3_readItem_108 : decode cX3_readItem 108 = .ok (.aload_n 0, 1) := by decide +kernel
theorem dX3_readItem_109 : decode cX3_readItem 109 = .ok (.aload_n 1, 1) := by decide +kernel
theorem dX3_readItem_110 : decode cX3_readItem 110 = .ok (.invokevirtual 60, 3) := by decide +kernel
theorem dX3_readItem_113 : decode cX3_readItem 113 = .ok (.aload_n 0, 1) := by decide +kernel
theorem dX3_readItem_114 : decode cX3_readItem 114 = .ok (.getfield 25, 3) := by decide +kernel
theorem dX3_readItem_117 : decode cX3_readItem 117 = .ok (.iconst (-1), 1) := by decide +kernel
theorem dX3_readItem_118 : decode cX3_readItem 118 = .ok (.if_icmp .ne 13, 3) := by decide +kernel
theorem dX3_readItem_121 : decode cX3_readItem 121 = .ok (.aload_n 0, 1) := by decide +kernel
theorem dX3_readItem_122 : decode cX3_readItem 122 = .ok (.dup, 1) := by decide +kernel
theorem dX3_readItem_123 : decode cX3_readItem 123 = .ok (.getfield 19, 3) := by decide +kernel
theorem dX3_readItem_126 : decode cX3_readItem 126 = .ok (.iconst 1, 1) := by decide +kernel
theorem dX3_readItem_127 : decode cX3_readItem 127 = .ok (.iadd, 1) := by decide +kernel
theorem dX3_readItem_128 : decode cX3_readItem 128 = .ok (.putfield 19, 3) := by decide +kernel
theorem dX3_readItem_131 : decode cX3_readItem 131 = .ok (.return_, 1) := by decide +kernel
set_option maxRecDepth 20000 in
theorem ggX3_readSection_X3_readNumber : GoodIn wsX3_readSection wsX3_readNumber := goodIn_r _ [7, 1, 2, 8, 9, 10, 6, 11, 12, 13, 14, 15, 16, 17, 18, 19, 20, 21, 22, 23, 38, 39, 40, 41, 42] (by decide +kernel) (by decide +kernel)
set_option maxRecDepth 20000 in
theorem gX3_readSection_X3_readNumber : GoodIn wsX3_readSection (wsV RX3 63 RX3 yX3_readNumber wsX3_readNumber) := goodIn_app (goodIn_of _ (by decide +kernel)) ggX3_readSection_X3_readNumber
set_option maxRecDepth 20000 in
theorem ggX3_readSection_X3_expect : GoodIn wsX3_readSection wsX3_expect := goodIn_r _ [27, 1, 2, 8, 9, 10, 6, 11, 12, 13, 14, 15, 16, 17, 38, 39, 40, 41, 42] (by decide +kernel) (by decide +kernel)
set_option maxRecDepth 20000 in
theorem gX3_readSection_X3_expect : GoodIn wsX3_readSection (wsV RX3 36 RX3 yX3_expect wsX3_expect) := goodIn_app (goodIn_of _ (by decide +kernel)) ggX3_readSection_X3_expect
set_option maxRecDepth 20000 in
theorem ggX3_readSection_X3_next : GoodIn wsX3_readSection wsX3_next := goodIn_r _ [11, 2, 12, 13, 14, 6, 15, 16, 17, 38, 39, 40, 41, 42] (by decide +kernel) (by decide +kernel)
set_option maxRecDepth 20000 in
theorem gX3_readSection_X3_next : GoodIn wsX3_readSection (wsV RX3 40 RX3 yX3_next wsX3_next) := goodIn_app (goodIn_of _ (by decide +kernel)) ggX3_readSection_X3_next
set_option maxRecDepth 20000 in
theorem ggX3_readSection_X0_append : GoodIn wsX3_readSection wsX0_append := goodIn_r _ [32, 33, 34, 35, 36, 37, 43, 44, 45, 46, 47, 48, 49, 50, 51, 52] (by decide +kernel) (by decide +kernel)
set_option maxRecDepth 20000 in
theorem gX3_readSection_X0_append : GoodIn wsX3_readSection (wsV RX3 67 RX0 yX0_append wsX0_append) := goodIn_app (goodIn_of _ (by decide +kernel)) ggX3_readSection_X0_append
theorem dX3_readSection_0 : decode cX3_readSection 0 = .ok (.aload_n 0, 1) := by decide +kernel
theorem dX3_readSection_1 : decode cX3_readSection 1 = .ok (.iconst 1, 1) := by decide +kernel
theorem dX3_readSection_2 : decode cX3_readSection 2 = .ok (.sipush 5000, 3) := by decide +kernel
theorem dX3_readSection_5 : decode cX3_readSection 5 = .ok (.invokevirtual 63, 3) := by decide +kernel
theorem dX3_readSection_8 : decode cX3_readSection 8 = .ok (.istore_n 3, 1) := by decide +kernel
theorem dX3_readSection_9 : decode cX3_readSection 9 = .ok (.aload_n 0, 1) := by decide +kernel
theorem dX3_readSection_10 : decode cX3_readSection 10 = .ok (.bipush 47, 2) := by decide +kernel
theorem dX3_readSection_12 : decode cX3_readSection 12 = .ok (.invokevirtual 36, 3) := by decide +kernel
theorem dX3_readSection_15 : decode cX3_readSection 15 = .ok (.aload_n 0, 1) := by decide +kernel
theorem dX3_readSection_16 : decode cX3_readSection 16 = .ok (.iconst 1, 1) := by decide +kernel
theorem dX3_readSection_17 : decode cX3_readSection 17 = .ok (.sipush 5000, 3) := by decide +kernel
theorem dX3_readSection_20 : decode cX3_readSection 20 = .ok (.invokevirtual 63, 3) := by decide +kernel
theorem dX3_readSection_23 : decode cX3_readSection 23 = .ok (.istore 4, 2) := by decide +kernel
theorem dX3_readSection_25 : decode cX3_readSection 25 = .ok (.iconst 0, 1) := by decide +kernel
theorem dX3_readSection_26 : decode cX3_readSection 26 = .ok (.istore 5, 2) := by decide +kernel
theorem dX3_readSection_28 : decode cX3_readSection 28 = .ok (.aload_n 0, 1) := by decide +kernel
theorem dX3_readSection_29 : decode cX3_readSection 29 = .ok (.getfield 25, 3) := by decide +kernel
theorem dX3_readSection_32 : decode cX3_readSection 32 = .ok (.iconst (-1), 1) := by decide +kernel
theorem dX3_readSection_33 : decode cX3_readSection 33 = .ok (.if_icmp .ne 32, 3) := by decide +kernel
theorem dX3_readSection_36 : decode cX3_readSection 36 = .ok (.aload_n 0, 1) := by decide +kernel
theorem dX3_readSection_37 : decode cX3_readSection 37 = .ok (.invokevirtual 40, 3) := by decide +kernel
theorem dX3_readSection_40 : decode cX3_readSection 40 = .ok (.bipush 45, 2) := by decide +kernel
theorem dX3_readSection_42 : decode cX3_readSection 42 = .ok (.if_icmp .ne 23, 3) := by decide +kernel
theorem dX3_readSection_45 : decode cX3_readSection 45 = .ok (.aload_n 0, 1) := by decide +kernel
theorem dX3_readSection_46 : decode cX3_readSection 46 = .ok (.dup, 1) := by decide +kernel
theorem dX3_readSection_47 : decode cX3_readSection 47 = .ok (.getfield 22, 3) := by decide +kernel
theorem dX3_readSection_50 : decode cX3_readSection 50 = .ok (.iconst 1, 1) := by decide +kernel
theorem dX3_readSection_51 : decode cX3_readSection 51 = .ok (.iadd, 1) := by decide +kernel
theorem dX3_readSection_52 : decode cX3_readSection 52 = .ok (.putfield 22, 3) := by decide +kernel
theorem dX3_readSection_55 : decode cX3_readSection 55 = .ok (.aload_n 0, 1) := by decide +kernel
theorem dX3_readSection_56 : decode cX3_readSection 56 = .ok (.iconst 0, 1) := by decide +kernel
theorem dX3_readSection_57 : decode cX3_readSection 57 = .ok (.sipush 500, 3) := by decide +kernel
theorem dX3_readSection_60 : decode cX3_readSection 60 = .ok (.invokevirtual 63, 3) := by decide +kernel
theorem dX3_readSection_63 : decode cX3_readSection 63 = .ok (.istore 5, 2) := by decide +kernel
theorem dX3_readSection_65 : decode cX3_readSection 65 = .ok (.aload_n 0, 1) := by decide +kernel
theorem dX3_readSection_66 : decode cX3_readSection 66 = .ok (.getfield 25, 3) := by decide +kernel
theorem dX3_readSection_69 : decode cX3_readSection 69 = .ok (.iconst (-1), 1) := by decide +kernel
theorem dX3_readSection_70 : decode cX3_readSection 70 = .ok (.if_icmp .ne 14, 3) := by decide +kernel
theorem dX3_readSection_73 : decode cX3_readSection 73 = .ok (.aload_n 1, 1) := by decide +kernel
theorem dX3_readSection_74 : decode cX3_readSection 74 = .ok (.iload_n 3, 1) := by decide +kernel
theorem dX3_readSection_75 : decode cX3_readSection 75 = .ok (.iload 4, 2) := by decide +kernel
theorem dX3_readSection_77 : decode cX3_readSection 77 = .ok (.iload 5, 2) := by decide +kernel
theorem dX3_readSection_79 : decode cX3_readSection 79 = .ok (.iload_n 2, 1) := by decide +kernel
theorem dX3_readSection_80 : decode cX3_readSection 80 = .ok (.invokevirtual 67, 3) := by decide +kernel
theorem dX3_readSection_83 : decode cX3_readSection 83 = .ok (.pop, 1) := by decide +kernel
theorem dX3_readSection_84 : decode cX3_readSection 84 = .ok (.return_, 1) := by decide +kernel
set_option maxRecDepth 20000 in
theorem ggX3_readJoint_X3_readNumber : GoodIn wsX3_readJoint wsX3_readNumber := goodIn_r _ [8, 3, 2, 9, 10, 11, 7, 12, 13, 14, 15, 16, 17, 18, 19, 20, 21, 22, 23, 24, 57, 58, 59, 60, 61] (by decide +kernel) (by decide +kernel)
set_option maxRecDepth 20000 in
theorem gX3_readJoint_X3_readNumber : GoodIn wsX3_readJoint (wsV RX3 63 RX3 yX3_readNumber wsX3_readNumber) := goodIn_app (goodIn_of _ (by decide +kernel)) ggX3_readJoint_X3_readNumber
set_option maxRecDepth 20000 in
theorem ggX3_readJoint_X3_expect : GoodIn wsX3_readJoint wsX3_expect := goodIn_r _ [28, 3, 2, 9, 10, 11, 7, 12, 13, 14, 15, 16, 17, 18, 57, 58, 59, 60, 61] (by decide +kernel) (by decide +kernel)
set_option maxRecDepth 20000 in
theorem gX3_readJoint_X3_expect : GoodIn wsX3_readJoint (wsV RX3 36 RX3 yX3_expect wsX3_expect) := goodIn_app (goodIn_of _ (by decide +kernel)) ggX3_readJoint_X3_expect
set_option maxRecDepth 20000 in
theorem ggX3_readJoint_X3_next : GoodIn wsX3_readJoint wsX3_next := goodIn_r _ [12, 2, 13, 14, 15, 7, 16, 17, 18, 57, 58, 59, 60, 61] (by decide +kernel) (by decide +kernel)
set_option maxRecDepth 20000 in
theorem gX3_readJoint_X3_next : GoodIn wsX3_readJoint (wsV RX3 40 RX3 yX3_next wsX3_next) := goodIn_app (goodIn_of _ (by decide +kernel)) ggX3_readJoint_X3_next
set_option maxRecDepth 20000 in
theorem ggX3_readJoint_X0_canLink : GoodIn wsX3_readJoint wsX0_canLink := goodIn_r _ [33, 34, 35, 36, 37, 32, 38, 39, 40, 41, 23, 42, 47, 48, 49, 50, 51, 52, 53, 54, 55, 56] (by decide +kernel) (by decide +kernel)
set_option maxRecDepth 20000 in
theorem gX3_readJoint_X0_canLink : GoodIn wsX3_readJoint (wsV RX3 74 RX0 yX0_canLink wsX0_canLink) := goodIn_app (goodIn_of _ (by decide +kernel)) ggX3_readJoint_X0_canLink
set_option maxRecDepth 20000 in
theorem ggX3_readJoint_X0_link : GoodIn wsX3_readJoint wsX0_link := goodIn_r _ [46, 34, 39, 40, 47, 48, 49, 50, 51, 52, 53, 54, 55, 56] (by decide +kernel) (by decide +kernel)
set_option maxRecDepth 20000 in
theorem gX3_readJoint_X0_link : GoodIn wsX3_readJoint (wsV RX3 78 RX0 yX0_link wsX0_link) := goodIn_app (goodIn_of _ (by decide +kernel)) ggX3_readJoint_X0_link
theorem dX3_readJoint_0 : decode cX3_readJoint 0 = .ok (.aload_n 0, 1) := by decide +kernel
theorem dX3_readJoint_1 : decode cX3_readJoint 1 = .ok (.iconst 0, 1) := by decide +kernel
theorem dX3_readJoint_2 : decode cX3_readJoint 2 = .ok (.aload_n 1, 1) := by decide +kernel
theorem dX3_readJoint_3 : decode cX3_readJoint 3 = .ok (.getfield 71, 3) := by decide +kernel
theorem dX3_readJoint_6 : decode cX3_readJoint 6 = .ok (.iconst 1, 1) := by decide +kernel
theorem dX3_readJoint_7 : decode cX3_readJoint 7 = .ok (.isub, 1) := by decide +kernel
theorem dX3_readJoint_8 : decode cX3_readJoint 8 = .ok (.invokevirtual 63, 3) := by decide +kernel
theorem dX3_readJoint_11 : decode cX3_readJoint 11 = .ok (.istore_n 2, 1) := by decide +kernel
theorem dX3_readJoint_12 : decode cX3_readJoint 12 = .ok (.aload_n 0, 1) := by decide +kernel
theorem dX3_readJoint_13 : decode cX3_readJoint 13 = .ok (.bipush 61, 2) := by decide +kernel
theorem dX3_readJoint_15 : decode cX3_readJoint 15 = .ok (.invokevirtual 36, 3) := by decide +kernel
theorem dX3_readJoint_18 : decode cX3_readJoint 18 = .ok (.aload_n 0, 1) := by decide +kernel
theorem dX3_readJoint_19 : decode cX3_readJoint 19 = .ok (.invokevirtual 40, 3) := by decide +kernel
theorem dX3_readJoint_22 : decode cX3_readJoint 22 = .ok (.pop, 1) := by decide +kernel
theorem dX3_readJoint_23 : decode cX3_readJoint 23 = .ok (.aload_n 0, 1) := by decide +kernel
theorem dX3_readJoint_24 : decode cX3_readJoint 24 = .ok (.getfield 22, 3) := by decide +kernel
theorem dX3_readJoint_27 : decode cX3_readJoint 27 = .ok (.istore_n 3, 1) := by decide +kernel
theorem dX3_readJoint_28 : decode cX3_readJoint 28 = .ok (.aload_n 0, 1) := by decide +kernel
theorem dX3_readJoint_29 : decode cX3_readJoint 29 = .ok (.iconst 0, 1) := by decide +kernel
theorem dX3_readJoint_30 : decode cX3_readJoint 30 = .ok (.aload_n 1, 1) := by decide +kernel
theorem dX3_readJoint_31 : decode cX3_readJoint 31 = .ok (.getfield 71, 3) := by decide +kernel
theorem dX3_readJoint_34 : decode cX3_readJoint 34 = .ok (.iconst 1, 1) := by decide +kernel
theorem dX3_readJoint_35 : decode cX3_readJoint 35 = .ok (.isub, 1) := by decide +kernel
theorem dX3_readJoint_36 : decode cX3_readJoint 36 = .ok (.invokevirtual 63, 3) := by decide +kernel
theorem dX3_readJoint_39 : decode cX3_readJoint 39 = .ok (.istore 4, 2) := by decide +kernel
theorem dX3_readJoint_41 : decode cX3_readJoint 41 = .ok (.aload_n 0, 1) := by decide +kernel
theorem dX3_readJoint_42 : decode cX3_readJoint 42 = .ok (.getfield 25, 3) := by decide +kernel
theorem dX3_readJoint_45 : decode cX3_readJoint 45 = .ok (.iconst (-1), 1) := by decide +kernel
theorem dX3_readJoint_46 : decode cX3_readJoint 46 = .ok (.if_icmp .eq 4, 3) := by decide +kernel
theorem dX3_readJoint_49 : decode cX3_readJoint 49 = .ok (.return_, 1) := by decide +kernel
theorem dX3_readJoint_50 : decode cX3_readJoint 50 = .ok (.aload_n 1, 1) := by decide +kernel
theorem dX3_readJoint_51 : decode cX3_readJoint 51 = .ok (.iload_n 2, 1) := by decide +kernel
theorem dX3_readJoint_52 : decode cX3_readJoint 52 = .ok (.iload 4, 2) := by decide +kernel
theorem dX3_readJoint_54 : decode cX3_readJoint 54 = .ok (.invokevirtual 74, 3) := by decide +kernel
theorem dX3_readJoint_57 : decode cX3_readJoint 57 = .ok (.ifCond .eq 14, 3) := by decide +kernel
theorem dX3_readJoint_60 : decode cX3_readJoint 60 = .ok (.aload_n 1, 1) := by decide +kernel
theorem dX3_readJoint_61 : decode cX3_readJoint 61 = .ok (.iload_n 2, 1) := by decide +kernel
theorem dX3_readJoint_62 : decode cX3_readJoint 62 = .ok (.iload 4, 2) := by decide +kernel
theorem dX3_readJoint_64 : decode cX3_readJoint 64 = .ok (.invokevirtual 78, 3) := by decide +kernel
theorem dX3_readJoint_67 : decode cX3_readJoint 67 = .ok (.pop, 1) := by decide +kernel
theorem dX3_readJoint_68 : decode cX3_readJoint 68 = .ok (.goto 8, 3) := by decide +kernel
theorem dX3_readJoint_71 : decode cX3_readJoint 71 = .ok (.aload_n 0, 1) := by decide +kernel
theorem dX3_readJoint_72 : decode cX3_readJoint 72 = .ok (.iload_n 3, 1) := by decide +kernel
theorem dX3_readJoint_73 : decode cX3_readJoint 73 = .ok (.putfield 25, 3) := by decide +kernel
theorem dX3_readJoint_76 : decode cX3_readJoint 76 = .ok (.return_, 1) := by decide +kernel
set_option maxRecDepth 20000 in
theorem ggX3_readNumber_X3_next : GoodIn wsX3_readNumber wsX3_next := goodIn_r _ [7, 2, 8, 9, 10, 6, 11, 12, 13, 20, 21, 22, 23, 24] (by decide +kernel) (by decide +kernel)
set_option maxRecDepth 20000 in
theorem gX3_readNumber_X3_next : GoodIn wsX3_readNumber (wsV RX3 40 RX3 yX3_next wsX3_next) := goodIn_app (goodIn_of _ (by decide +kernel)) ggX3_readNumber_X3_next
set_option maxRecDepth 20000 in
theorem ggX3_readNumber_X3_isDigit : GoodIn wsX3_readNumber wsX3_isDigit := goodIn_r _ [16] (by decide +kernel) (by decide +kernel)
set_option maxRecDepth 20000 in
theorem gX3_readNumber_X3_isDigit : GoodIn wsX3_readNumber (va_wsS RX3 44 yX3_isDigit wsX3_isDigit) := goodIn_app (goodIn_of _ (by decide +kernel)) ggX3_readNumber_X3_isDigit
set_option maxRecDepth 20000 in
theorem ggX3_readNumber_X3_codeAt : GoodIn wsX3_readNumber wsX3_codeAt := goodIn_r _ [11, 12, 13, 20, 21, 22, 23, 24] (by decide +kernel) (by decide +kernel)
set_option maxRecDepth 20000 in
theorem gX3_readNumber_X3_codeAt : GoodIn wsX3_readNumber (wsV RX3 81 RX3 yX3_codeAt wsX3_codeAt) := goodIn_app (goodIn_of _ (by decide +kernel)) ggX3_readNumber_X3_codeAt
set_option maxRecDepth 20000 in
theorem ggX3_readNumber_X4_isWithin : GoodIn wsX3_readNumber wsX4_isWithin := goodIn_r _ [19] (by decide +kernel) (by decide +kernel)
set_option maxRecDepth 20000 in
theorem gX3_readNumber_X4_isWithin_n85 : GoodIn wsX3_readNumber (wsX4_isWithin) := ggX3_readNumber_X4_isWithin
theorem dX3_readNumber_0 : decode cX3_readNumber 0 = .ok (.aload_n 0, 1) := by decide +kernel
theorem dX3_readNumber_1 : decode cX3_readNumber 1 = .ok (.getfield 25, 3) := by decide +kernel
theorem dX3_readNumber_4 : decode cX3_readNumber 4 = .ok (.iconst (-1), 1) := by decide +kernel
theorem dX3_readNumber_5 : decode cX3_readNumber 5 = .ok (.if_icmp .eq 5, 3) := by decide +kernel
theorem dX3_readNumber_8 : decode cX3_readNumber 8 = .ok (.iconst 0, 1) := by decide +kernel
theorem dX3_readNumber_9 : decode cX3_readNumber 9 = .ok (.ireturn, 1) := by decide +kernel
theorem dX3_readNumber_10 : decode cX3_readNumber 10 = .ok (.iconst 0, 1) := by decide +kernel
theorem dX3_readNumber_11 : decode cX3_readNumber 11 = .ok (.istore_n 3, 1) := by decide +kernel
theorem dX3_readNumber_12 : decode cX3_readNumber 12 = .ok (.iconst 0, 1) := by decide +kernel
theorem dX3_readNumber_13 : decode cX3_readNumber 13 = .ok (.istore 4, 2) := by decide +kernel
theorem dX3_readNumber_15 : decode cX3_readNumber 15 = .ok (.aload_n 0, 1) := by decide +kernel
theorem dX3_readNumber_16 : decode cX3_readNumber 16 = .ok (.invokevirtual 40, 3) := by decide +kernel
theorem dX3_readNumber_19 : decode cX3_readNumber 19 = .ok (.istore 5, 2) := by decide +kernel
theorem dX3_readNumber_21 : decode cX3_readNumber 21 = .ok (.aload_n 0, 1) := by decide +kernel
theorem dX3_readNumber_22 : decode cX3_readNumber 22 = .ok (.getfield 22, 3) := by decide +kernel
theorem dX3_readNumber_25 : decode cX3_readNumber 25 = .ok (.istore 6, 2) := by decide +kernel
theorem dX3_readNumber_27 : decode cX3_readNumber 27 = .ok (.iconst 0, 1) := by decide +kernel
theorem dX3_readNumber_28 : decode cX3_readNumber 28 = .ok (.istore 7, 2) := by decide +kernel
theorem dX3_readNumber_30 : decode cX3_readNumber 30 = .ok (.iload 7, 2) := by decide +kernel
theorem dX3_readNumber_32 : decode cX3_readNumber 32 = .ok (.bipush 120, 2) := by decide +kernel
theorem dX3_readNumber_34 : decode cX3_readNumber 34 = .ok (.if_icmp .ge 61, 3) := by decide +kernel
theorem dX3_readNumber_37 : decode cX3_readNumber 37 = .ok (.iload 5, 2) := by decide +kernel
theorem dX3_readNumber_39 : decode cX3_readNumber 39 = .ok (.invokestatic 44, 3) := by decide +kernel
theorem dX3_readNumber_42 : decode cX3_readNumber 42 = .ok (.ifCond .eq 53, 3) := by decide +kernel
theorem dX3_readNumber_45 : decode cX3_readNumber 45 = .ok (.iload 4, 2) := by decide +kernel
theorem dX3_readNumber_47 : decode cX3_readNumber 47 = .ok (.iconst 4, 1) := by decide +kernel
theorem dX3_readNumber_48 : decode cX3_readNumber 48 = .ok (.if_icmp .ge 16, 3) := by decide +kernel
theorem dX3_readNumber_51 : decode cX3_readNumber 51 = .ok (.bipush 10, 2) := by decide +kernel
theorem dX3_readNumber_53 : decode cX3_readNumber 53 = .ok (.iload_n 3, 1) := by decide +kernel
theorem dX3_readNumber_54 : decode cX3_readNumber 54 = .ok (.imul, 1) := by decide +kernel
theorem dX3_readNumber_55 : decode cX3_readNumber 55 = .ok (.iload 5, 2) := by decide +kernel
theorem dX3_readNumber_57 : decode cX3_readNumber 57 = .ok (.iadd, 1) := by decide +kernel
theorem dX3_readNumber_58 : decode cX3_readNumber 58 = .ok (.bipush 48, 2) := by decide +kernel
theorem dX3_readNumber_60 : decode cX3_readNumber 60 = .ok (.isub, 1) := by decide +kernel
theorem dX3_readNumber_61 : decode cX3_readNumber 61 = .ok (.goto 4, 3) := by decide +kernel
theorem dX3_readNumber_64 : decode cX3_readNumber 64 = .ok (.iload_n 3, 1) := by decide +kernel
theorem dX3_readNumber_65 : decode cX3_readNumber 65 = .ok (.istore_n 3, 1) := by decide +kernel
theorem dX3_readNumber_66 : decode cX3_readNumber 66 = .ok (.iinc 4 1, 3) := by decide +kernel
theorem dX3_readNumber_69 : decode cX3_readNumber 69 = .ok (.aload_n 0, 1) := by decide +kernel
theorem dX3_readNumber_70 : decode cX3_readNumber 70 = .ok (.dup, 1) := by decide +kernel
theorem dX3_readNumber_71 : decode cX3_readNumber 71 = .ok (.getfield 22, 3) := by decide +kernel
theorem dX3_readNumber_74 : decode cX3_readNumber 74 = .ok (.iconst 1, 1) := by decide +kernel
theorem dX3_readNumber_75 : decode cX3_readNumber 75 = .ok (.iadd, 1) := by decide +kernel
theorem dX3_readNumber_76 : decode cX3_readNumber 76 = .ok (.putfield 22, 3) := by decide +kernel
theorem dX3_readNumber_79 : decode cX3_readNumber 79 = .ok (.aload_n 0, 1) := by decide +kernel
theorem dX3_readNumber_80 : decode cX3_readNumber 80 = .ok (.aload_n 0, 1) := by decide +kernel
theorem dX3_readNumber_81 : decode cX3_readNumber 81 = .ok (.getfield 22, 3) := by decide +kernel
theorem dX3_readNumber_84 : decode cX3_readNumber 84 = .ok (.invokevirtual 81, 3) := by decide +kernel
theorem dX3_readNumber_87 : decode cX3_readNumber 87 = .ok (.istore 5, 2) := by decide +kernel
theorem dX3_readNumber_89 : decode cX3_readNumber 89 = .ok (.iinc 7 1, 3) := by decide +kernel
theorem dX3_readNumber_92 : decode cX3_readNumber 92 = .ok (.goto (-62), 3) := by decide +kernel
theorem dX3_readNumber_95 : decode cX3_readNumber 95 = .ok (.iload 4, 2) := by decide +kernel
theorem dX3_readNumber_97 : decode cX3_readNumber 97 = .ok (.ifCond .eq 18, 3) := by decide +kernel
theorem dX3_readNumber_100 : decode cX3_readNumber 100 = .ok (.iload 4, 2) := by decide +kernel
theorem dX3_readNumber_102 : decode cX3_readNumber 102 = .ok (.iconst 4, 1) := by decide +kernel
theorem dX3_readNumber_103 : decode cX3_readNumber 103 = .ok (.if_icmp .gt 12, 3) := by decide +kernel
theorem dX3_readNumber_106 : decode cX3_readNumber 106 = .ok (.iload_n 3, 1) := by decide +kernel
theorem dX3_readNumber_107 : decode cX3_readNumber 107 = .ok (.iload_n 1, 1) := by decide +kernel
theorem dX3_readNumber_108 : decode cX3_readNumber 108 = .ok (.iload_n 2, 1) := by decide +kernel
theorem dX3_readNumber_109 : decode cX3_readNumber 109 = .ok (.invokestatic 85, 3) := by decide +kernel
theorem dX3_readNumber_112 : decode cX3_readNumber 112 = .ok (.ifCond .ne 9, 3) := by decide +kernel
theorem dX3_readNumber_115 : decode cX3_readNumber 115 = .ok (.aload_n 0, 1) := by decide +kernel
theorem dX3_readNumber_116 : decode cX3_readNumber 116 = .ok (.iload 6, 2) := by decide +kernel
theorem dX3_readNumber_118 : decode cX3_readNumber 118 = .ok (.putfield 25, 3) := by decide +kernel
theorem dX3_readNumber_121 : decode cX3_readNumber 121 = .ok (.iload_n 3, 1) := by decide +kernel
theorem dX3_readNumber_122 : decode cX3_readNumber 122 = .ok (.ireturn, 1) := by decide +kernel
set_option maxRecDepth 20000 in
theorem ggX3_expect_X3_next : GoodIn wsX3_expect wsX3_next := goodIn_r _ [7, 2, 8, 9, 10, 6, 11, 12, 13, 14, 15, 16, 17, 18] (by decide +kernel) (by decide +kernel)
set_option maxRecDepth 20000 in
theorem gX3_expect_X3_next : GoodIn wsX3_expect (wsV RX3 40 RX3 yX3_next wsX3_next) := goodIn_app (goodIn_of _ (by decide +kernel)) ggX3_expect_X3_next
theorem dX3_expect_0 : decode cX3_expect 0 = .ok (.aload_n 0, 1) := by decide +kernel
theorem dX3_expect_1 : decode cX3_expect 1 = .ok (.getfield 25, 3) := by decide +kernel
theorem dX3_expect_4 : decode cX3_expect 4 = .ok (.iconst (-1), 1) := by decide +kernel
theorem dX3_expect_5 : decode cX3_expect 5 = .ok (.if_icmp .eq 4, 3) := by decide +kernel
theorem dX3_expect_8 : decode cX3_expect 8 = .ok (.return_, 1) := by decide +kernel
theorem dX3_expect_9 : decode cX3_expect 9 = .ok (.aload_n 0, 1) := by decide +kernel
theorem dX3_expect_10 : decode cX3_expect 10 = .ok (.invokevirtual 40, 3) := by decide +kernel
theorem dX3_expect_13 : decode cX3_expect 13 = .ok (.iload_n 1, 1) := by decide +kernel
theorem dX3_expect_14 : decode cX3_expect 14 = .ok (.if_icmp .ne 16, 3) := by decide +kernel
theorem dX3_expect_17 : decode cX3_expect 17 = .ok (.aload_n 0, 1) := by decide +kernel
theorem dX3_expect_18 : decode cX3_expect 18 = .ok (.dup, 1) := by decide +kernel
theorem dX3_expect_19 : decode cX3_expect 19 = .ok (.getfield 22, 3) := by decide +kernel
theorem dX3_expect_22 : decode cX3_expect 22 = .ok (.iconst 1, 1) := by decide +kernel
theorem dX3_expect_23 : decode cX3_expect 23 = .ok (.iadd, 1) := by decide +kernel
theorem dX3_expect_24 : decode cX3_expect 24 = .ok (.putfield 22, 3) := by decide +kernel
theorem dX3_expect_27 : decode cX3_expect 27 = .ok (.goto 11, 3) := by decide +kernel
theorem dX3_expect_30 : decode cX3_expect 30 = .ok (.aload_n 0, 1) := by decide +kernel
theorem dX3_expect_31 : decode cX3_expect 31 = .ok (.aload_n 0, 1) := by decide +kernel
theorem dX3_expect_32 : decode cX3_expect 32 = .ok (.getfield 22, 3) := by decide +kernel
theorem dX3_expect_35 : decode cX3_expect 35 = .ok (.putfield 25, 3) := by decide +kernel
theorem dX3_expect_38 : decode cX3_expect 38 = .ok (.return_, 1) := by decide +kernel
set_option maxRecDepth 20000 in
theorem ggX3_next_X3_codeAt : GoodIn wsX3_next wsX3_codeAt := goodIn_r _ [6, 7, 8, 9, 10, 11, 12, 13] (by decide +kernel) (by decide +kernel)
set_option maxRecDepth 20000 in
theorem gX3_next_X3_codeAt : GoodIn wsX3_next (wsV RX3 81 RX3 yX3_codeAt wsX3_codeAt) := goodIn_app (goodIn_of _ (by decide +kernel)) ggX3_next_X3_codeAt
theorem dX3_next_0 : decode cX3_next 0 = .ok (.iconst 0, 1) := by decide +kernel
theorem dX3_next_1 : decode cX3_next 1 = .ok (.istore_n 1, 1) := by decide +kernel
theorem dX3_next_2 : decode cX3_next 2 = .ok (.iload_n 1, 1) := by decide +kernel
theorem dX3_next_3 : decode cX3_next 3 = .ok (.bipush 120, 2) := by decide +kernel
theorem dX3_next_5 : decode cX3_next 5 = .ok (.if_icmp .ge 32, 3) := by decide +kernel
theorem dX3_next_8 : decode cX3_next 8 = .ok (.aload_n 0, 1) := by decide +kernel
theorem dX3_next_9 : decode cX3_next 9 = .ok (.aload_n 0, 1) := by decide +kernel
theorem dX3_next_10 : decode cX3_next 10 = .ok (.getfield 22, 3) := by decide +kernel
theorem dX3_next_13 : decode cX3_next 13 = .ok (.invokevirtual 81, 3) := by decide +kernel
theorem dX3_next_16 : decode cX3_next 16 = .ok (.bipush 32, 2) := by decide +kernel
theorem dX3_next_18 : decode cX3_next 18 = .ok (.if_icmp .ne 19, 3) := by decide +kernel
theorem dX3_next_21 : decode cX3_next 21 = .ok (.aload_n 0, 1) := by decide +kernel
theorem dX3_next_22 : decode cX3_next 22 = .ok (.dup, 1) := by decide +kernel
theorem dX3_next_23 : decode cX3_next 23 = .ok (.getfield 22, 3) := by decide +kernel
theorem dX3_next_26 : decode cX3_next 26 = .ok (.iconst 1, 1) := by decide +kernel
theorem dX3_next_27 : decode cX3_next 27 = .ok (.iadd, 1) := by decide +kernel
theorem dX3_next_28 : decode cX3_next 28 = .ok (.putfield 22, 3) := by decide +kernel
theorem dX3_next_31 : decode cX3_next 31 = .ok (.iinc 1 1, 3) := by decide +kernel
theorem dX3_next_34 : decode cX3_next 34 = .ok (.goto (-32), 3) := by decide +kernel
theorem dX3_next_37 : decode cX3_next 37 = .ok (.aload_n 0, 1) := by decide +kernel
theorem dX3_next_38 : decode cX3_next 38 = .ok (.aload_n 0, 1) := by decide +kernel
theorem dX3_next_39 : decode cX3_next 39 = .ok (.getfield 22, 3) := by decide +kernel
theorem dX3_next_42 : decode cX3_next 42 = .ok (.invokevirtual 81, 3) := by decide +kernel
theorem dX3_next_45 : decode cX3_next 45 = .ok (.ireturn, 1) := by decide +kernel
set_option maxRecDepth 20000 in
theorem ggX3_isAtEnd_X3_next : GoodIn wsX3_isAtEnd wsX3_next := goodIn_r _ [5, 6, 7, 8, 9, 4, 10, 11, 12, 13, 14, 15, 16, 17] (by decide +kernel) (by decide +kernel)
set_option maxRecDepth 20000 in
theorem gX3_isAtEnd_X3_next : GoodIn wsX3_isAtEnd (wsV RX3 40 RX3 yX3_next wsX3_next) := goodIn_app (goodIn_of _ (by decide +kernel)) ggX3_isAtEnd_X3_next
theorem dX3_isAtEnd_0 : decode cX3_isAtEnd 0 = .ok (.aload_n 0, 1) := by decide +kernel
theorem dX3_isAtEnd_1 : decode cX3_isAtEnd 1 = .ok (.invokevirtual 40, 3) := by decide +kernel
theorem dX3_isAtEnd_4 : decode cX3_isAtEnd 4 = .ok (.iconst (-1), 1) := by decide +kernel
theorem dX3_isAtEnd_5 : decode cX3_isAtEnd 5 = .ok (.if_icmp .ne 7, 3) := by decide +kernel
theorem dX3_isAtEnd_8 : decode cX3_isAtEnd 8 = .ok (.iconst 1, 1) := by decide +kernel
theorem dX3_isAtEnd_9 : decode cX3_isAtEnd 9 = .ok (.goto 4, 3) := by decide +kernel
theorem dX3_isAtEnd_12 : decode cX3_isAtEnd 12 = .ok (.iconst 0, 1) := by decide +kernel
theorem dX3_isAtEnd_13 : decode cX3_isAtEnd 13 = .ok (.ireturn, 1) := by decide +kernel
theorem dX3_codeAt_0 : decode cX3_codeAt 0 = .ok (.iload_n 1, 1) := by decide +kernel
theorem dX3_codeAt_1 : decode cX3_codeAt 1 = .ok (.ifCond .lt 26, 3) := by decide +kernel
theorem dX3_codeAt_4 : decode cX3_codeAt 4 = .ok (.iload_n 1, 1) := by decide +kernel
theorem dX3_codeAt_5 : decode cX3_codeAt 5 = .ok (.aload_n 0, 1) := by decide +kernel
theorem dX3_codeAt_6 : decode cX3_codeAt 6 = .ok (.getfield 15, 3) := by decide +kernel
theorem dX3_codeAt_9 : decode cX3_codeAt 9 = .ok (.if_icmp .ge 18, 3) := by decide +kernel
theorem dX3_codeAt_12 : decode cX3_codeAt 12 = .ok (.iload_n 1, 1) := by decide +kernel
theorem dX3_codeAt_13 : decode cX3_codeAt 13 = .ok (.bipush 120, 2) := by decide +kernel
theorem dX3_codeAt_15 : decode cX3_codeAt 15 = .ok (.if_icmp .ge 12, 3) := by decide +kernel
theorem dX3_codeAt_18 : decode cX3_codeAt 18 = .ok (.aload_n 0, 1) := by decide +kernel
theorem dX3_codeAt_19 : decode cX3_codeAt 19 = .ok (.getfield 9, 3) := by decide +kernel
theorem dX3_codeAt_22 : decode cX3_codeAt 22 = .ok (.iload_n 1, 1) := by decide +kernel
theorem dX3_codeAt_23 : decode cX3_codeAt 23 = .ok (.iaload, 1) := by decide +kernel
theorem dX3_codeAt_24 : decode cX3_codeAt 24 = .ok (.goto 4, 3) := by decide +kernel
theorem dX3_codeAt_27 : decode cX3_codeAt 27 = .ok (.iconst (-1), 1) := by decide +kernel
theorem dX3_codeAt_28 : decode cX3_codeAt 28 = .ok (.ireturn, 1) := by decide +kernel
theorem dX3_isDigit_0 : decode cX3_isDigit 0 = .ok (.iload_n 0, 1) := by decide +kernel
theorem dX3_isDigit_1 : decode cX3_isDigit 1 = .ok (.bipush 48, 2) := by decide +kernel
theorem dX3_isDigit_3 : decode cX3_isDigit 3 = .ok (.if_icmp .lt 13, 3) := by decide +kernel
theorem dX3_isDigit_6 : decode cX3_isDigit 6 = .ok (.iload_n 0, 1) := by decide +kernel
theorem dX3_isDigit_7 : decode cX3_isDigit 7 = .ok (.bipush 57, 2) := by decide +kernel
theorem dX3_isDigit_9 : decode cX3_isDigit 9 = .ok (.if_icmp .gt 7, 3) := by decide +kernel
theorem dX3_isDigit_12 : decode cX3_isDigit 12 = .ok (.iconst 1, 1) := by decide +kernel
theorem dX3_isDigit_13 : decode cX3_isDigit 13 = .ok (.goto 4, 3) := by decide +kernel
theorem dX3_isDigit_16 : decode cX3_isDigit 16 = .ok (.iconst 0, 1) := by decide +kernel
theorem dX3_isDigit_17 : decode cX3_isDigit 17 = .ok (.ireturn, 1) := by decide +kernel
