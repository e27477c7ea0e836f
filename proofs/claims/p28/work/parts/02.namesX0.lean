theorem dX0_init_0 : decode cX0_init 0 = .ok (.aload_n 0, 1) := by decide +kernel
theorem dX0_init_1 : decode cX0_init 1 = .ok (.invokespecial 3, 3) := by decide +kernel
theorem dX0_init_4 : decode cX0_init 4 = .ok (.aload_n 0, 1) := by decide +kernel
theorem dX0_init_5 : decode cX0_init 5 = .ok (.iconst 0, 1) := by decide +kernel
theorem dX0_init_6 : decode cX0_init 6 = .ok (.putfield 9, 3) := by decide +kernel
theorem dX0_init_9 : decode cX0_init 9 = .ok (.aload_n 0, 1) := by decide +kernel
theorem dX0_init_10 : decode cX0_init 10 = .ok (.iconst 0, 1) := by decide +kernel
theorem dX0_init_11 : decode cX0_init 11 = .ok (.putfield 15, 3) := by decide +kernel
theorem dX0_init_14 : decode cX0_init 14 = .ok (.aload_n 0, 1) := by decide +kernel
theorem dX0_init_15 : decode cX0_init 15 = .ok (.bipush 50, 2) := by decide +kernel
theorem dX0_init_17 : decode cX0_init 17 = .ok (.putfield 18, 3) := by decide +kernel
theorem dX0_init_20 : decode cX0_init 20 = .ok (.aload_n 0, 1) := by decide +kernel
theorem dX0_init_21 : decode cX0_init 21 = .ok (.sipush 140, 3) := by decide +kernel
theorem dX0_init_24 : decode cX0_init 24 = .ok (.putfield 21, 3) := by decide +kernel
theorem dX0_init_27 : decode cX0_init 27 = .ok (.aload_n 0, 1) := by decide +kernel
theorem dX0_init_28 : decode cX0_init 28 = .ok (.bipush 12, 2) := by decide +kernel
theorem dX0_init_30 : decode cX0_init 30 = .ok (.newarray .int, 2) := by decide +kernel
theorem dX0_init_32 : decode cX0_init 32 = .ok (.putfield 24, 3) := by decide +kernel
theorem dX0_init_35 : decode cX0_init 35 = .ok (.aload_n 0, 1) := by decide +kernel
theorem dX0_init_36 : decode cX0_init 36 = .ok (.bipush 12, 2) := by decide +kernel
theorem dX0_init_38 : decode cX0_init 38 = .ok (.newarray .int, 2) := by decide +kernel
theorem dX0_init_40 : decode cX0_init 40 = .ok (.putfield 28, 3) := by decide +kernel
theorem dX0_init_43 : decode cX0_init 43 = .ok (.aload_n 0, 1) := by decide +kernel
theorem dX0_init_44 : decode cX0_init 44 = .ok (.bipush 12, 2) := by decide +kernel
theorem dX0_init_46 : decode cX0_init 46 = .ok (.newarray .int, 2) := by decide +kernel
theorem dX0_init_48 : decode cX0_init 48 = .ok (.putfield 31, 3) := by decide +kernel
theorem dX0_init_51 : decode cX0_init 51 = .ok (.aload_n 0, 1) := by decide +kernel
theorem dX0_init_52 : decode cX0_init 52 = .ok (.bipush 12, 2) := by decide +kernel
theorem dX0_init_54 : decode cX0_init 54 = .ok (.newarray .boolean, 2) := by decide +kernel
theorem dX0_init_56 : decode cX0_init 56 = .ok (.putfield 34, 3) := by decide +kernel
theorem dX0_init_59 : decode cX0_init 59 = .ok (.aload_n 0, 1) := by decide +kernel
theorem dX0_init_60 : decode cX0_init 60 = .ok (.bipush 20, 2) := by decide +kernel
theorem dX0_init_62 : decode cX0_init 62 = .ok (.newarray .int, 2) := by decide +kernel
theorem dX0_init_64 : decode cX0_init 64 = .ok (.putfield 38, 3) := by decide +kernel
theorem dX0_init_67 : decode cX0_init 67 = .ok (.aload_n 0, 1) := by decide +kernel
theorem dX0_init_68 : decode cX0_init 68 = .ok (.bipush 20, 2) := by decide +kernel
theorem dX0_init_70 : decode cX0_init 70 = .ok (.newarray .int, 2) := by decide +kernel
theorem dX0_init_72 : decode cX0_init 72 = .ok (.putfield 41, 3) := by decide +kernel
theorem dX0_init_75 : decode cX0_init 75 = .ok (.return_, 1) := by decide +kernel
theorem dX0_copyFrom_0 : decode cX0_copyFrom 0 = .ok (.aload_n 0, 1) := by decide +kernel
theorem dX0_copyFrom_1 : decode cX0_copyFrom 1 = .ok (.aload_n 1, 1) := by decide +kernel
theorem dX0_copyFrom_2 : decode cX0_copyFrom 2 = .ok (.getfield 9, 3) := by decide +kernel
theorem dX0_copyFrom_5 : decode cX0_copyFrom 5 = .ok (.putfield 9, 3) := by decide +kernel
theorem dX0_copyFrom_8 : decode cX0_copyFrom 8 = .ok (.aload_n 0, 1) := by decide +kernel
theorem dX0_copyFrom_9 : decode cX0_copyFrom 9 = .ok (.aload_n 1, 1) := by decide +kernel
theorem dX0_copyFrom_10 : decode cX0_copyFrom 10 = .ok (.getfield 15, 3) := by decide +kernel
theorem dX0_copyFrom_13 : decode cX0_copyFrom 13 = .ok (.putfield 15, 3) := by decide +kernel
theorem dX0_copyFrom_16 : decode cX0_copyFrom 16 = .ok (.aload_n 0, 1) := by decide +kernel
theorem dX0_copyFrom_17 : decode cX0_copyFrom 17 = .ok (.aload_n 1, 1) := by decide +kernel
theorem dX0_copyFrom_18 : decode cX0_copyFrom 18 = .ok (.getfield 18, 3) := by decide +kernel
theorem dX0_copyFrom_21 : decode cX0_copyFrom 21 = .ok (.putfield 18, 3) := by decide +kernel
theorem dX0_copyFrom_24 : decode cX0_copyFrom 24 = .ok (.aload_n 0, 1) := by decide +kernel
theorem dX0_copyFrom_25 : decode cX0_copyFrom 25 = .ok (.aload_n 1, 1) := by decide +kernel
theorem dX0_copyFrom_26 : decode cX0_copyFrom 26 = .ok (.getfield 21, 3) := by decide +kernel
theorem dX0_copyFrom_29 : decode cX0_copyFrom 29 = .ok (.putfield 21, 3) := by decide +kernel
theorem dX0_copyFrom_32 : decode cX0_copyFrom 32 = .ok (.iconst 0, 1) := by decide +kernel
theorem dX0_copyFrom_33 : decode cX0_copyFrom 33 = .ok (.istore_n 2, 1) := by decide +kernel
theorem dX0_copyFrom_34 : decode cX0_copyFrom 34 = .ok (.iload_n 2, 1) := by decide +kernel
theorem dX0_copyFrom_35 : decode cX0_copyFrom 35 = .ok (.bipush 12, 2) := by decide +kernel
theorem dX0_copyFrom_37 : decode cX0_copyFrom 37 = .ok (.if_icmp .ge 57, 3) := by decide +kernel
theorem dX0_copyFrom_40 : decode cX0_copyFrom 40 = .ok (.aload_n 0, 1) := by decide +kernel
theorem dX0_copyFrom_41 : decode cX0_copyFrom 41 = .ok (.getfield 24, 3) := by decide +kernel
theorem dX0_copyFrom_44 : decode cX0_copyFrom 44 = .ok (.iload_n 2, 1) := by decide +kernel
theorem dX0_copyFrom_45 : decode cX0_copyFrom 45 = .ok (.aload_n 1, 1) := by decide +kernel
theorem dX0_copyFrom_46 : decode cX0_copyFrom 46 = .ok (.getfield 24, 3) := by decide +kernel
theorem dX0_copyFrom_49 : decode cX0_copyFrom 49 = .ok (.iload_n 2, 1) := by decide +kernel
theorem dX0_copyFrom_50 : decode cX0_copyFrom 50 = .ok (.iaload, 1) := by decide +kernel
theorem dX0_copyFrom_51 : decode cX0_copyFrom 51 = .ok (.iastore, 1) := by decide +kernel
theorem dX0_copyFrom_52 : decode cX0_copyFrom 52 = .ok (.aload_n 0, 1) := by decide +kernel
theorem dX0_copyFrom_53 : decode cX0_copyFrom 53 = .ok (.getfield 28, 3) := by decide +kernel
theorem dX0_copyFrom_56 : decode cX0_copyFrom 56 = .ok (.iload_n 2, 1) := by decide +kernel
theorem dX0_copyFrom_57 : decode cX0_copyFrom 57 = .ok (.aload_n 1, 1) := by decide +kernel
theorem dX0_copyFrom_58 : decode cX0_copyFrom 58 = .ok (.getfield 28, 3) := by decide +kernel
theorem dX0_copyFrom_61 : decode cX0_copyFrom 61 = .ok (.iload_n 2, 1) := by decide +kernel
theorem dX0_copyFrom_62 : decode cX0_copyFrom 62 = .ok (.iaload, 1) := by decide +kernel
theorem dX0_copyFrom_63 : decode cX0_copyFrom 63 = .ok (.iastore, 1) := by decide +kernel
theorem dX0_copyFrom_64 : decode cX0_copyFrom 64 = .ok (.aload_n 0, 1) := by decide +kernel
theorem dX0_copyFrom_65 : decode cX0_copyFrom 65 = .ok (.getfield 31, 3) := by decide +kernel
theorem dX0_copyFrom_68 : decode cX0_copyFrom 68 = .ok (.iload_n 2, 1) := by decide +kernel
theorem dX0_copyFrom_69 : decode cX0_copyFrom 69 = .ok (.aload_n 1, 1) := by decide +kernel
theorem dX0_copyFrom_70 : decode cX0_copyFrom 70 = .ok (.getfield 31, 3) := by decide +kernel
theorem dX0_copyFrom_73 : decode cX0_copyFrom 73 = .ok (.iload_n 2, 1) := by decide +kernel
theorem dX0_copyFrom_74 : decode cX0_copyFrom 74 = .ok (.iaload, 1) := by decide +kernel
theorem dX0_copyFrom_75 : decode cX0_copyFrom 75 = .ok (.iastore, 1) := by decide +kernel
theorem dX0_copyFrom_76 : decode cX0_copyFrom 76 = .ok (.aload_n 0, 1) := by decide +kernel
theorem dX0_copyFrom_77 : decode cX0_copyFrom 77 = .ok (.getfield 34, 3) := by decide +kernel
theorem dX0_copyFrom_80 : decode cX0_copyFrom 80 = .ok (.iload_n 2, 1) := by decide +kernel
theorem dX0_copyFrom_81 : decode cX0_copyFrom 81 = .ok (.aload_n 1, 1) := by decide +kernel
theorem dX0_copyFrom_82 : decode cX0_copyFrom 82 = .ok (.getfield 34, 3) := by decide +kernel
theorem dX0_copyFrom_85 : decode cX0_copyFrom 85 = .ok (.iload_n 2, 1) := by decide +kernel
theorem dX0_copyFrom_86 : decode cX0_copyFrom 86 = .ok (.baload, 1) := by decide +kernel
theorem dX0_copyFrom_87 : decode cX0_copyFrom 87 = .ok (.bastore, 1) := by decide +kernel
theorem dX0_copyFrom_88 : decode cX0_copyFrom 88 = .ok (.iinc 2 1, 3) := by decide +kernel
theorem dX0_copyFrom_91 : decode cX0_copyFrom 91 = .ok (.goto (-57), 3) := by decide +kernel
theorem dX0_copyFrom_94 : decode cX0_copyFrom 94 = .ok (.iconst 0, 1) := by decide +kernel
theorem dX0_copyFrom_95 : decode cX0_copyFrom 95 = .ok (.istore_n 2, 1) := by decide +kernel
theorem dX0_copyFrom_96 : decode cX0_copyFrom 96 = .ok (.iload_n 2, 1) := by decide +kernel
theorem dX0_copyFrom_97 : decode cX0_copyFrom 97 = .ok (.bipush 20, 2) := by decide +kernel
theorem dX0_copyFrom_99 : decode cX0_copyFrom 99 = .ok (.if_icmp .ge 33, 3) := by decide +kernel
theorem dX0_copyFrom_102 : decode cX0_copyFrom 102 = .ok (.aload_n 0, 1) := by decide +kernel
theorem dX0_copyFrom_103 : decode cX0_copyFrom 103 = .ok (.getfield 38, 3) := by decide +kernel
theorem dX0_copyFrom_106 : decode cX0_copyFrom 106 = .ok (.iload_n 2, 1) := by decide +kernel
theorem dX0_copyFrom_107 : decode cX0_copyFrom 107 = .ok (.aload_n 1, 1) := by decide +kernel
theorem dX0_copyFrom_108 : decode cX0_copyFrom 108 = .ok (.getfield 38, 3) := by decide +kernel
theorem dX0_copyFrom_111 : decode cX0_copyFrom 111 = .ok (.iload_n 2, 1) := by decide +kernel
theorem dX0_copyFrom_112 : decode cX0_copyFrom 112 = .ok (.iaload, 1) := by decide +kernel
theorem dX0_copyFrom_113 : decode cX0_copyFrom 113 = .ok (.iastore, 1) := by decide +kernel
theorem dX0_copyFrom_114 : decode cX0_copyFrom 114 = .ok (.aload_n 0, 1) := by decide +kernel
theorem dX0_copyFrom_115 : decode cX0_copyFrom 115 = .ok (.getfield 41, 3) := by decide +kernel
theorem dX0_copyFrom_118 : decode cX0_copyFrom 118 = .ok (.iload_n 2, 1) := by decide +kernel
theorem dX0_copyFrom_119 : decode cX0_copyFrom 119 = .ok (.aload_n 1, 1) := by decide +kernel
theorem dX0_copyFrom_120 : decode cX0_copyFrom 120 = .ok (.getfield 41, 3) := by decide +kernel
theorem dX0_copyFrom_123 : decode cX0_copyFrom 123 = .ok (.iload_n 2, 1) := by decide +kernel
theorem dX0_copyFrom_124 : decode cX0_copyFrom 124 = .ok (.iaload, 1) := by decide +kernel
theorem dX0_copyFrom_125 : decode cX0_copyFrom 125 = .ok (.iastore, 1) := by decide +kernel
theorem dX0_copyFrom_126 : decode cX0_copyFrom 126 = .ok (.iinc 2 1, 3) := by decide +kernel
theorem dX0_copyFrom_129 : decode cX0_copyFrom 129 = .ok (.goto (-33), 3) := by decide +kernel
theorem dX0_copyFrom_132 : decode cX0_copyFrom 132 = .ok (.return_, 1) := by decide +kernel
theorem dX0_has_0 : decode cX0_has 0 = .ok (.iload_n 1, 1) := by decide +kernel
theorem dX0_has_1 : decode cX0_has 1 = .ok (.ifCond .lt 15, 3) := by decide +kernel
theorem dX0_has_4 : decode cX0_has 4 = .ok (.iload_n 1, 1) := by decide +kernel
theorem dX0_has_5 : decode cX0_has 5 = .ok (.aload_n 0, 1) := by decide +kernel
theorem dX0_has_6 : decode cX0_has 6 = .ok (.getfield 9, 3) := by decide +kernel
theorem dX0_has_9 : decode cX0_has 9 = .ok (.if_icmp .ge 7, 3) := by decide +kernel
theorem dX0_has_12 : decode cX0_has 12 = .ok (.iconst 1, 1) := by decide +kernel
theorem dX0_has_13 : decode cX0_has 13 = .ok (.goto 4, 3) := by decide +kernel
theorem dX0_has_16 : decode cX0_has 16 = .ok (.iconst 0, 1) := by decide +kernel
theorem dX0_has_17 : decode cX0_has 17 = .ok (.ireturn, 1) := by decide +kernel
theorem dX0_hasJoint_0 : decode cX0_hasJoint 0 = .ok (.iload_n 1, 1) := by decide +kernel
theorem dX0_hasJoint_1 : decode cX0_hasJoint 1 = .ok (.ifCond .lt 15, 3) := by decide +kernel
theorem dX0_hasJoint_4 : decode cX0_hasJoint 4 = .ok (.iload_n 1, 1) := by decide +kernel
theorem dX0_hasJoint_5 : decode cX0_hasJoint 5 = .ok (.aload_n 0, 1) := by decide +kernel
theorem dX0_hasJoint_6 : decode cX0_hasJoint 6 = .ok (.getfield 15, 3) := by decide +kernel
theorem dX0_hasJoint_9 : decode cX0_hasJoint 9 = .ok (.if_icmp .ge 7, 3) := by decide +kernel
theorem dX0_hasJoint_12 : decode cX0_hasJoint 12 = .ok (.iconst 1, 1) := by decide +kernel
theorem dX0_hasJoint_13 : decode cX0_hasJoint 13 = .ok (.goto 4, 3) := by decide +kernel
theorem dX0_hasJoint_16 : decode cX0_hasJoint 16 = .ok (.iconst 0, 1) := by decide +kernel
theorem dX0_hasJoint_17 : decode cX0_hasJoint 17 = .ok (.ireturn, 1) := by decide +kernel
theorem dX0_hasRoomForSection_0 : decode cX0_hasRoomForSection 0 = .ok (.aload_n 0, 1) := by decide +kernel
theorem dX0_hasRoomForSection_1 : decode cX0_hasRoomForSection 1 = .ok (.getfield 9, 3) := by decide +kernel
theorem dX0_hasRoomForSection_4 : decode cX0_hasRoomForSection 4 = .ok (.bipush 12, 2) := by decide +kernel
theorem dX0_hasRoomForSection_6 : decode cX0_hasRoomForSection 6 = .ok (.if_icmp .ge 7, 3) := by decide +kernel
theorem dX0_hasRoomForSection_9 : decode cX0_hasRoomForSection 9 = .ok (.iconst 1, 1) := by decide +kernel
theorem dX0_hasRoomForSection_10 : decode cX0_hasRoomForSection 10 = .ok (.goto 4, 3) := by decide +kernel
theorem dX0_hasRoomForSection_13 : decode cX0_hasRoomForSection 13 = .ok (.iconst 0, 1) := by decide +kernel
theorem dX0_hasRoomForSection_14 : decode cX0_hasRoomForSection 14 = .ok (.ireturn, 1) := by decide +kernel
theorem dX0_hasRoomForJoint_0 : decode cX0_hasRoomForJoint 0 = .ok (.aload_n 0, 1) := by decide +kernel
theorem dX0_hasRoomForJoint_1 : decode cX0_hasRoomForJoint 1 = .ok (.getfield 15, 3) := by decide +kernel
theorem dX0_hasRoomForJoint_4 : decode cX0_hasRoomForJoint 4 = .ok (.bipush 20, 2) := by decide +kernel
theorem dX0_hasRoomForJoint_6 : decode cX0_hasRoomForJoint 6 = .ok (.if_icmp .ge 7, 3) := by decide +kernel
theorem dX0_hasRoomForJoint_9 : decode cX0_hasRoomForJoint 9 = .ok (.iconst 1, 1) := by decide +kernel
theorem dX0_hasRoomForJoint_10 : decode cX0_hasRoomForJoint 10 = .ok (.goto 4, 3) := by decide +kernel
theorem dX0_hasRoomForJoint_13 : decode cX0_hasRoomForJoint 13 = .ok (.iconst 0, 1) := by decide +kernel
theorem dX0_hasRoomForJoint_14 : decode cX0_hasRoomForJoint 14 = .ok (.ireturn, 1) := by decide +kernel
set_option maxRecDepth 20000 in
theorem ggX0_isFeeder_X0_has : GoodIn wsX0_isFeeder wsX0_has := goodIn_r _ [6, 7, 8, 9, 10, 11, 12, 13, 14, 15, 16, 17] (by decide +kernel) (by decide +kernel)
set_option maxRecDepth 20000 in
theorem gX0_isFeeder_X0_has : GoodIn wsX0_isFeeder (wsV RX0 44 RX0 yX0_has wsX0_has) := goodIn_app (goodIn_of _ (by decide +kernel)) ggX0_isFeeder_X0_has
theorem dX0_isFeeder_0 : decode cX0_isFeeder 0 = .ok (.aload_n 0, 1) := by decide +kernel
theorem dX0_isFeeder_1 : decode cX0_isFeeder 1 = .ok (.iload_n 1, 1) := by decide +kernel
theorem dX0_isFeeder_2 : decode cX0_isFeeder 2 = .ok (.invokevirtual 44, 3) := by decide +kernel
theorem dX0_isFeeder_5 : decode cX0_isFeeder 5 = .ok (.ifCond .eq 16, 3) := by decide +kernel
theorem dX0_isFeeder_8 : decode cX0_isFeeder 8 = .ok (.aload_n 0, 1) := by decide +kernel
theorem dX0_isFeeder_9 : decode cX0_isFeeder 9 = .ok (.getfield 34, 3) := by decide +kernel
theorem dX0_isFeeder_12 : decode cX0_isFeeder 12 = .ok (.iload_n 1, 1) := by decide +kernel
theorem dX0_isFeeder_13 : decode cX0_isFeeder 13 = .ok (.baload, 1) := by decide +kernel
theorem dX0_isFeeder_14 : decode cX0_isFeeder 14 = .ok (.ifCond .eq 7, 3) := by decide +kernel
theorem dX0_isFeeder_17 : decode cX0_isFeeder 17 = .ok (.iconst 1, 1) := by decide +kernel
theorem dX0_isFeeder_18 : decode cX0_isFeeder 18 = .ok (.goto 4, 3) := by decide +kernel
theorem dX0_isFeeder_21 : decode cX0_isFeeder 21 = .ok (.iconst 0, 1) := by decide +kernel
theorem dX0_isFeeder_22 : decode cX0_isFeeder 22 = .ok (.ireturn, 1) := by decide +kernel
set_option maxRecDepth 20000 in
theorem ggX0_cooledArea_X4_at : GoodIn wsX0_cooledArea wsX4_at := goodIn_r _ [5] (by decide +kernel) (by decide +kernel)
set_option maxRecDepth 20000 in
theorem gX0_cooledArea_X4_at_n48 : GoodIn wsX0_cooledArea (wsX4_at) := ggX0_cooledArea_X4_at
theorem dX0_cooledArea_0 : decode cX0_cooledArea 0 = .ok (.aload_n 0, 1) := by decide +kernel
theorem dX0_cooledArea_1 : decode cX0_cooledArea 1 = .ok (.getfield 28, 3) := by decide +kernel
theorem dX0_cooledArea_4 : decode cX0_cooledArea 4 = .ok (.iload_n 1, 1) := by decide +kernel
theorem dX0_cooledArea_5 : decode cX0_cooledArea 5 = .ok (.invokestatic 48, 3) := by decide +kernel
theorem dX0_cooledArea_8 : decode cX0_cooledArea 8 = .ok (.aload_n 0, 1) := by decide +kernel
theorem dX0_cooledArea_9 : decode cX0_cooledArea 9 = .ok (.getfield 31, 3) := by decide +kernel
theorem dX0_cooledArea_12 : decode cX0_cooledArea 12 = .ok (.iload_n 1, 1) := by decide +kernel
theorem dX0_cooledArea_13 : decode cX0_cooledArea 13 = .ok (.invokestatic 48, 3) := by decide +kernel
theorem dX0_cooledArea_16 : decode cX0_cooledArea 16 = .ok (.iadd, 1) := by decide +kernel
theorem dX0_cooledArea_17 : decode cX0_cooledArea 17 = .ok (.ireturn, 1) := by decide +kernel
set_option maxRecDepth 20000 in
theorem ggX0_firstNeed_X4_at : GoodIn wsX0_firstNeed wsX4_at := goodIn_r _ [5] (by decide +kernel) (by decide +kernel)
set_option maxRecDepth 20000 in
theorem gX0_firstNeed_X4_at_n48 : GoodIn wsX0_firstNeed (wsX4_at) := ggX0_firstNeed_X4_at
theorem dX0_firstNeed_0 : decode cX0_firstNeed 0 = .ok (.aload_n 0, 1) := by decide +kernel
theorem dX0_firstNeed_1 : decode cX0_firstNeed 1 = .ok (.getfield 24, 3) := by decide +kernel
theorem dX0_firstNeed_4 : decode cX0_firstNeed 4 = .ok (.iload_n 1, 1) := by decide +kernel
theorem dX0_firstNeed_5 : decode cX0_firstNeed 5 = .ok (.invokestatic 48, 3) := by decide +kernel
theorem dX0_firstNeed_8 : decode cX0_firstNeed 8 = .ok (.aload_n 0, 1) := by decide +kernel
theorem dX0_firstNeed_9 : decode cX0_firstNeed 9 = .ok (.getfield 18, 3) := by decide +kernel
theorem dX0_firstNeed_12 : decode cX0_firstNeed 12 = .ok (.imul, 1) := by decide +kernel
theorem dX0_firstNeed_13 : decode cX0_firstNeed 13 = .ok (.sipush 1000, 3) := by decide +kernel
theorem dX0_firstNeed_16 : decode cX0_firstNeed 16 = .ok (.idiv, 1) := by decide +kernel
theorem dX0_firstNeed_17 : decode cX0_firstNeed 17 = .ok (.ireturn, 1) := by decide +kernel
set_option maxRecDepth 20000 in
theorem ggX0_bearablePores_X0_isFeeder : GoodIn wsX0_bearablePores wsX0_isFeeder := goodIn_r _ [7, 8, 9, 10, 11, 6, 12, 13, 17, 18, 19, 20, 21, 22, 23, 24, 25, 26] (by decide +kernel) (by decide +kernel)
set_option maxRecDepth 20000 in
theorem gX0_bearablePores_X0_isFeeder : GoodIn wsX0_bearablePores (wsV RX0 52 RX0 yX0_isFeeder wsX0_isFeeder) := goodIn_app (goodIn_of _ (by decide +kernel)) ggX0_bearablePores_X0_isFeeder
set_option maxRecDepth 20000 in
theorem ggX0_bearablePores_X4_at : GoodIn wsX0_bearablePores wsX4_at := goodIn_r _ [16] (by decide +kernel) (by decide +kernel)
set_option maxRecDepth 20000 in
theorem gX0_bearablePores_X4_at_n48 : GoodIn wsX0_bearablePores (wsX4_at) := ggX0_bearablePores_X4_at
theorem dX0_bearablePores_0 : decode cX0_bearablePores 0 = .ok (.aload_n 0, 1) := by decide +kernel
theorem dX0_bearablePores_1 : decode cX0_bearablePores 1 = .ok (.iload_n 1, 1) := by decide +kernel
theorem dX0_bearablePores_2 : decode cX0_bearablePores 2 = .ok (.invokevirtual 52, 3) := by decide +kernel
theorem dX0_bearablePores_5 : decode cX0_bearablePores 5 = .ok (.ifCond .eq 23, 3) := by decide +kernel
theorem dX0_bearablePores_8 : decode cX0_bearablePores 8 = .ok (.aload_n 0, 1) := by decide +kernel
theorem dX0_bearablePores_9 : decode cX0_bearablePores 9 = .ok (.getfield 24, 3) := by decide +kernel
theorem dX0_bearablePores_12 : decode cX0_bearablePores 12 = .ok (.iload_n 1, 1) := by decide +kernel
theorem dX0_bearablePores_13 : decode cX0_bearablePores 13 = .ok (.invokestatic 48, 3) := by decide +kernel
theorem dX0_bearablePores_16 : decode cX0_bearablePores 16 = .ok (.aload_n 0, 1) := by decide +kernel
theorem dX0_bearablePores_17 : decode cX0_bearablePores 17 = .ok (.getfield 21, 3) := by decide +kernel
theorem dX0_bearablePores_20 : decode cX0_bearablePores 20 = .ok (.imul, 1) := by decide +kernel
theorem dX0_bearablePores_21 : decode cX0_bearablePores 21 = .ok (.sipush 1000, 3) := by decide +kernel
theorem dX0_bearablePores_24 : decode cX0_bearablePores 24 = .ok (.idiv, 1) := by decide +kernel
theorem dX0_bearablePores_25 : decode cX0_bearablePores 25 = .ok (.goto 4, 3) := by decide +kernel
theorem dX0_bearablePores_28 : decode cX0_bearablePores 28 = .ok (.iconst 0, 1) := by decide +kernel
theorem dX0_bearablePores_29 : decode cX0_bearablePores 29 = .ok (.ireturn, 1) := by decide +kernel
set_option maxRecDepth 20000 in
theorem ggX0_stepOf_X4_at : GoodIn wsX0_stepOf wsX4_at := goodIn_r _ [5] (by decide +kernel) (by decide +kernel)
set_option maxRecDepth 20000 in
theorem gX0_stepOf_X4_at_n48 : GoodIn wsX0_stepOf (wsX4_at) := ggX0_stepOf_X4_at
set_option maxRecDepth 20000 in
theorem ggX0_stepOf_X0_cooledArea : GoodIn wsX0_stepOf wsX0_cooledArea := goodIn_r _ [10, 11, 12, 3, 4, 5, 13, 14, 15, 16, 17, 18, 19, 20, 21, 22] (by decide +kernel) (by decide +kernel)
set_option maxRecDepth 20000 in
theorem gX0_stepOf_X0_cooledArea : GoodIn wsX0_stepOf (wsV RX0 55 RX0 yX0_cooledArea wsX0_cooledArea) := goodIn_app (goodIn_of _ (by decide +kernel)) ggX0_stepOf_X0_cooledArea
theorem dX0_stepOf_0 : decode cX0_stepOf 0 = .ok (.aload_n 0, 1) := by decide +kernel
theorem dX0_stepOf_1 : decode cX0_stepOf 1 = .ok (.getfield 24, 3) := by decide +kernel
theorem dX0_stepOf_4 : decode cX0_stepOf 4 = .ok (.iload_n 1, 1) := by decide +kernel
theorem dX0_stepOf_5 : decode cX0_stepOf 5 = .ok (.invokestatic 48, 3) := by decide +kernel
theorem dX0_stepOf_8 : decode cX0_stepOf 8 = .ok (.istore_n 2, 1) := by decide +kernel
theorem dX0_stepOf_9 : decode cX0_stepOf 9 = .ok (.aload_n 0, 1) := by decide +kernel
theorem dX0_stepOf_10 : decode cX0_stepOf 10 = .ok (.iload_n 1, 1) := by decide +kernel
theorem dX0_stepOf_11 : decode cX0_stepOf 11 = .ok (.invokevirtual 55, 3) := by decide +kernel
theorem dX0_stepOf_14 : decode cX0_stepOf 14 = .ok (.istore_n 3, 1) := by decide +kernel
theorem dX0_stepOf_15 : decode cX0_stepOf 15 = .ok (.iconst 0, 1) := by decide +kernel
theorem dX0_stepOf_16 : decode cX0_stepOf 16 = .ok (.istore 4, 2) := by decide +kernel
theorem dX0_stepOf_18 : decode cX0_stepOf 18 = .ok (.iconst 0, 1) := by decide +kernel
theorem dX0_stepOf_19 : decode cX0_stepOf 19 = .ok (.istore 5, 2) := by decide +kernel
theorem dX0_stepOf_21 : decode cX0_stepOf 21 = .ok (.iload 5, 2) := by decide +kernel
theorem dX0_stepOf_23 : decode cX0_stepOf 23 = .ok (.aload_n 0, 1) := by decide +kernel
theorem dX0_stepOf_24 : decode cX0_stepOf 24 = .ok (.getfield 9, 3) := by decide +kernel
theorem dX0_stepOf_27 : decode cX0_stepOf 27 = .ok (.if_icmp .ge 55, 3) := by decide +kernel
theorem dX0_stepOf_30 : decode cX0_stepOf 30 = .ok (.aload_n 0, 1) := by decide +kernel
theorem dX0_stepOf_31 : decode cX0_stepOf 31 = .ok (.getfield 24, 3) := by decide +kernel
theorem dX0_stepOf_34 : decode cX0_stepOf 34 = .ok (.iload 5, 2) := by decide +kernel
theorem dX0_stepOf_36 : decode cX0_stepOf 36 = .ok (.invokestatic 48, 3) := by decide +kernel
theorem dX0_stepOf_39 : decode cX0_stepOf 39 = .ok (.iload_n 3, 1) := by decide +kernel
theorem dX0_stepOf_40 : decode cX0_stepOf 40 = .ok (.imul, 1) := by decide +kernel
theorem dX0_stepOf_41 : decode cX0_stepOf 41 = .ok (.istore 6, 2) := by decide +kernel
theorem dX0_stepOf_43 : decode cX0_stepOf 43 = .ok (.iload_n 2, 1) := by decide +kernel
theorem dX0_stepOf_44 : decode cX0_stepOf 44 = .ok (.aload_n 0, 1) := by decide +kernel
theorem dX0_stepOf_45 : decode cX0_stepOf 45 = .ok (.iload 5, 2) := by decide +kernel
theorem dX0_stepOf_47 : decode cX0_stepOf 47 = .ok (.invokevirtual 55, 3) := by decide +kernel
theorem dX0_stepOf_50 : decode cX0_stepOf 50 = .ok (.imul, 1) := by decide +kernel
theorem dX0_stepOf_51 : decode cX0_stepOf 51 = .ok (.istore 7, 2) := by decide +kernel
theorem dX0_stepOf_53 : decode cX0_stepOf 53 = .ok (.iload 6, 2) := by decide +kernel
theorem dX0_stepOf_55 : decode cX0_stepOf 55 = .ok (.iload 7, 2) := by decide +kernel
theorem dX0_stepOf_57 : decode cX0_stepOf 57 = .ok (.if_icmp .lt 16, 3) := by decide +kernel
theorem dX0_stepOf_60 : decode cX0_stepOf 60 = .ok (.iload 6, 2) := by decide +kernel
theorem dX0_stepOf_62 : decode cX0_stepOf 62 = .ok (.iload 7, 2) := by decide +kernel
theorem dX0_stepOf_64 : decode cX0_stepOf 64 = .ok (.if_icmp .ne 12, 3) := by decide +kernel
theorem dX0_stepOf_67 : decode cX0_stepOf 67 = .ok (.iload 5, 2) := by decide +kernel
theorem dX0_stepOf_69 : decode cX0_stepOf 69 = .ok (.iload_n 1, 1) := by decide +kernel
theorem dX0_stepOf_70 : decode cX0_stepOf 70 = .ok (.if_icmp .ge 6, 3) := by decide +kernel
theorem dX0_stepOf_73 : decode cX0_stepOf 73 = .ok (.iinc 4 1, 3) := by decide +kernel
theorem dX0_stepOf_76 : decode cX0_stepOf 76 = .ok (.iinc 5 1, 3) := by decide +kernel
theorem dX0_stepOf_79 : decode cX0_stepOf 79 = .ok (.goto (-58), 3) := by decide +kernel
theorem dX0_stepOf_82 : decode cX0_stepOf 82 = .ok (.iload 4, 2) := by decide +kernel
theorem dX0_stepOf_84 : decode cX0_stepOf 84 = .ok (.ireturn, 1) := by decide +kernel
set_option maxRecDepth 20000 in
theorem ggX0_feeders_X0_isFeeder : GoodIn wsX0_feeders wsX0_isFeeder := goodIn_r _ [6, 7, 8, 9, 10, 5, 11, 1, 12, 13, 14, 15, 16, 17, 18, 19, 20, 21] (by decide +kernel) (by decide +kernel)
set_option maxRecDepth 20000 in
theorem gX0_feeders_X0_isFeeder : GoodIn wsX0_feeders (wsV RX0 52 RX0 yX0_isFeeder wsX0_isFeeder) := goodIn_app (goodIn_of _ (by decide +kernel)) ggX0_feeders_X0_isFeeder
theorem dX0_feeders_0 : decode cX0_feeders 0 = .ok (.iconst 0, 1) := by decide +kernel
theorem dX0_feeders_1 : decode cX0_feeders 1 = .ok (.istore_n 1, 1) := by decide +kernel
theorem dX0_feeders_2 : decode cX0_feeders 2 = .ok (.iconst 0, 1) := by decide +kernel
theorem dX0_feeders_3 : decode cX0_feeders 3 = .ok (.istore_n 2, 1) := by decide +kernel
theorem dX0_feeders_4 : decode cX0_feeders 4 = .ok (.iload_n 2, 1) := by decide +kernel
theorem dX0_feeders_5 : decode cX0_feeders 5 = .ok (.aload_n 0, 1) := by decide +kernel
theorem dX0_feeders_6 : decode cX0_feeders 6 = .ok (.getfield 9, 3) := by decide +kernel
theorem dX0_feeders_9 : decode cX0_feeders 9 = .ok (.if_icmp .ge 20, 3) := by decide +kernel
theorem dX0_feeders_12 : decode cX0_feeders 12 = .ok (.aload_n 0, 1) := by decide +kernel
theorem dX0_feeders_13 : decode cX0_feeders 13 = .ok (.iload_n 2, 1) := by decide +kernel
theorem dX0_feeders_14 : decode cX0_feeders 14 = .ok (.invokevirtual 52, 3) := by decide +kernel
theorem dX0_feeders_17 : decode cX0_feeders 17 = .ok (.ifCond .eq 6, 3) := by decide +kernel
theorem dX0_feeders_20 : decode cX0_feeders 20 = .ok (.iinc 1 1, 3) := by decide +kernel
theorem dX0_feeders_23 : decode cX0_feeders 23 = .ok (.iinc 2 1, 3) := by decide +kernel
theorem dX0_feeders_26 : decode cX0_feeders 26 = .ok (.goto (-22), 3) := by decide +kernel
theorem dX0_feeders_29 : decode cX0_feeders 29 = .ok (.iload_n 1, 1) := by decide +kernel
theorem dX0_feeders_30 : decode cX0_feeders 30 = .ok (.ireturn, 1) := by decide +kernel
set_option maxRecDepth 20000 in
theorem ggX0_yieldPerMille_X4_at : GoodIn wsX0_yieldPerMille wsX4_at := goodIn_r _ [5] (by decide +kernel) (by decide +kernel)
set_option maxRecDepth 20000 in
theorem gX0_yieldPerMille_X4_at_n48 : GoodIn wsX0_yieldPerMille (wsX4_at) := ggX0_yieldPerMille_X4_at
set_option maxRecDepth 20000 in
theorem ggX0_yieldPerMille_X0_isFeeder : GoodIn wsX0_yieldPerMille wsX0_isFeeder := goodIn_r _ [10, 11, 12, 13, 14, 9, 15, 1, 16, 17, 18, 19, 20, 21, 22, 23, 24, 25] (by decide +kernel) (by decide +kernel)
set_option maxRecDepth 20000 in
theorem gX0_yieldPerMille_X0_isFeeder : GoodIn wsX0_yieldPerMille (wsV RX0 52 RX0 yX0_isFeeder wsX0_isFeeder) := goodIn_app (goodIn_of _ (by decide +kernel)) ggX0_yieldPerMille_X0_isFeeder
theorem dX0_yieldPerMille_0 : decode cX0_yieldPerMille 0 = .ok (.iconst 0, 1) := by decide +kernel
theorem dX0_yieldPerMille_1 : decode cX0_yieldPerMille 1 = .ok (.istore_n 1, 1) := by decide +kernel
theorem dX0_yieldPerMille_2 : decode cX0_yieldPerMille 2 = .ok (.iconst 0, 1) := by decide +kernel
theorem dX0_yieldPerMille_3 : decode cX0_yieldPerMille 3 = .ok (.istore_n 2, 1) := by decide +kernel
theorem dX0_yieldPerMille_4 : decode cX0_yieldPerMille 4 = .ok (.iconst 0, 1) := by decide +kernel
theorem dX0_yieldPerMille_5 : decode cX0_yieldPerMille 5 = .ok (.istore_n 3, 1) := by decide +kernel
theorem dX0_yieldPerMille_6 : decode cX0_yieldPerMille 6 = .ok (.iload_n 3, 1) := by decide +kernel
theorem dX0_yieldPerMille_7 : decode cX0_yieldPerMille 7 = .ok (.aload_n 0, 1) := by decide +kernel
theorem dX0_yieldPerMille_8 : decode cX0_yieldPerMille 8 = .ok (.getfield 9, 3) := by decide +kernel
theorem dX0_yieldPerMille_11 : decode cX0_yieldPerMille 11 = .ok (.if_icmp .ge 39, 3) := by decide +kernel
theorem dX0_yieldPerMille_14 : decode cX0_yieldPerMille 14 = .ok (.iload_n 1, 1) := by decide +kernel
theorem dX0_yieldPerMille_15 : decode cX0_yieldPerMille 15 = .ok (.aload_n 0, 1) := by decide +kernel
theorem dX0_yieldPerMille_16 : decode cX0_yieldPerMille 16 = .ok (.getfield 24, 3) := by decide +kernel
theorem dX0_yieldPerMille_19 : decode cX0_yieldPerMille 19 = .ok (.iload_n 3, 1) := by decide +kernel
theorem dX0_yieldPerMille_20 : decode cX0_yieldPerMille 20 = .ok (.invokestatic 48, 3) := by decide +kernel
theorem dX0_yieldPerMille_23 : decode cX0_yieldPerMille 23 = .ok (.iadd, 1) := by decide +kernel
theorem dX0_yieldPerMille_24 : decode cX0_yieldPerMille 24 = .ok (.istore_n 1, 1) := by decide +kernel
theorem dX0_yieldPerMille_25 : decode cX0_yieldPerMille 25 = .ok (.aload_n 0, 1) := by decide +kernel
theorem dX0_yieldPerMille_26 : decode cX0_yieldPerMille 26 = .ok (.iload_n 3, 1) := by decide +kernel
theorem dX0_yieldPerMille_27 : decode cX0_yieldPerMille 27 = .ok (.invokevirtual 52, 3) := by decide +kernel
theorem dX0_yieldPerMille_30 : decode cX0_yieldPerMille 30 = .ok (.ifCond .ne 14, 3) := by decide +kernel
theorem dX0_yieldPerMille_33 : decode cX0_yieldPerMille 33 = .ok (.iload_n 2, 1) := by decide +kernel
theorem dX0_yieldPerMille_34 : decode cX0_yieldPerMille 34 = .ok (.aload_n 0, 1) := by decide +kernel
theorem dX0_yieldPerMille_35 : decode cX0_yieldPerMille 35 = .ok (.getfield 24, 3) := by decide +kernel
theorem dX0_yieldPerMille_38 : decode cX0_yieldPerMille 38 = .ok (.iload_n 3, 1) := by decide +kernel
theorem dX0_yieldPerMille_39 : decode cX0_yieldPerMille 39 = .ok (.invokestatic 48, 3) := by decide +kernel
theorem dX0_yieldPerMille_42 : decode cX0_yieldPerMille 42 = .ok (.iadd, 1) := by decide +kernel
theorem dX0_yieldPerMille_43 : decode cX0_yieldPerMille 43 = .ok (.istore_n 2, 1) := by decide +kernel
theorem dX0_yieldPerMille_44 : decode cX0_yieldPerMille 44 = .ok (.iinc 3 1, 3) := by decide +kernel
theorem dX0_yieldPerMille_47 : decode cX0_yieldPerMille 47 = .ok (.goto (-41), 3) := by decide +kernel
theorem dX0_yieldPerMille_50 : decode cX0_yieldPerMille 50 = .ok (.iload_n 1, 1) := by decide +kernel
theorem dX0_yieldPerMille_51 : decode cX0_yieldPerMille 51 = .ok (.ifCond .le 13, 3) := by decide +kernel
theorem dX0_yieldPerMille_54 : decode cX0_yieldPerMille 54 = .ok (.sipush 1000, 3) := by decide +kernel
theorem dX0_yieldPerMille_57 : decode cX0_yieldPerMille 57 = .ok (.iload_n 2, 1) := by decide +kernel
theorem dX0_yieldPerMille_58 : decode cX0_yieldPerMille 58 = .ok (.imul, 1) := by decide +kernel
theorem dX0_yieldPerMille_59 : decode cX0_yieldPerMille 59 = .ok (.iload_n 1, 1) := by decide +kernel
theorem dX0_yieldPerMille_60 : decode cX0_yieldPerMille 60 = .ok (.idiv, 1) := by decide +kernel
theorem dX0_yieldPerMille_61 : decode cX0_yieldPerMille 61 = .ok (.goto 4, 3) := by decide +kernel
theorem dX0_yieldPerMille_64 : decode cX0_yieldPerMille 64 = .ok (.iconst 0, 1) := by decide +kernel
theorem dX0_yieldPerMille_65 : decode cX0_yieldPerMille 65 = .ok (.ireturn, 1) := by decide +kernel
set_option maxRecDepth 20000 in
theorem ggX0_neighbours_X0_touches : GoodIn wsX0_neighbours wsX0_touches := goodIn_r _ [6, 7, 8, 9, 10, 11, 12, 13, 14, 15, 16, 17, 18, 19, 20, 21] (by decide +kernel) (by decide +kernel)
set_option maxRecDepth 20000 in
theorem gX0_neighbours_X0_touches : GoodIn wsX0_neighbours (wsV RX0 59 RX0 yX0_touches wsX0_touches) := goodIn_app (goodIn_of _ (by decide +kernel)) ggX0_neighbours_X0_touches
theorem dX0_neighbours_0 : decode cX0_neighbours 0 = .ok (.iconst 0, 1) := by decide +kernel
theorem dX0_neighbours_1 : decode cX0_neighbours 1 = .ok (.istore_n 2, 1) := by decide +kernel
theorem dX0_neighbours_2 : decode cX0_neighbours 2 = .ok (.iconst 0, 1) := by decide +kernel
theorem dX0_neighbours_3 : decode cX0_neighbours 3 = .ok (.istore_n 3, 1) := by decide +kernel
theorem dX0_neighbours_4 : decode cX0_neighbours 4 = .ok (.iload_n 3, 1) := by decide +kernel
theorem dX0_neighbours_5 : decode cX0_neighbours 5 = .ok (.aload_n 0, 1) := by decide +kernel
theorem dX0_neighbours_6 : decode cX0_neighbours 6 = .ok (.getfield 15, 3) := by decide +kernel
theorem dX0_neighbours_9 : decode cX0_neighbours 9 = .ok (.if_icmp .ge 21, 3) := by decide +kernel
theorem dX0_neighbours_12 : decode cX0_neighbours 12 = .ok (.aload_n 0, 1) := by decide +kernel
theorem dX0_neighbours_13 : decode cX0_neighbours 13 = .ok (.iload_n 3, 1) := by decide +kernel
theorem dX0_neighbours_14 : decode cX0_neighbours 14 = .ok (.iload_n 1, 1) := by decide +kernel
theorem dX0_neighbours_15 : decode cX0_neighbours 15 = .ok (.invokevirtual 59, 3) := by decide +kernel
theorem dX0_neighbours_18 : decode cX0_neighbours 18 = .ok (.ifCond .eq 6, 3) := by decide +kernel
theorem dX0_neighbours_21 : decode cX0_neighbours 21 = .ok (.iinc 2 1, 3) := by decide +kernel
theorem dX0_neighbours_24 : decode cX0_neighbours 24 = .ok (.iinc 3 1, 3) := by decide +kernel
theorem dX0_neighbours_27 : decode cX0_neighbours 27 = .ok (.goto (-23), 3) := by decide +kernel
theorem dX0_neighbours_30 : decode cX0_neighbours 30 = .ok (.iload_n 2, 1) := by decide +kernel
theorem dX0_neighbours_31 : decode cX0_neighbours 31 = .ok (.ireturn, 1) := by decide +kernel
set_option maxRecDepth 20000 in
theorem ggX0_touches_X4_at : GoodIn wsX0_touches wsX4_at := goodIn_r _ [5] (by decide +kernel) (by decide +kernel)
set_option maxRecDepth 20000 in
theorem gX0_touches_X4_at_n48 : GoodIn wsX0_touches (wsX4_at) := ggX0_touches_X4_at
theorem dX0_touches_0 : decode cX0_touches 0 = .ok (.aload_n 0, 1) := by decide +kernel
theorem dX0_touches_1 : decode cX0_touches 1 = .ok (.getfield 38, 3) := by decide +kernel
theorem dX0_touches_4 : decode cX0_touches 4 = .ok (.iload_n 1, 1) := by decide +kernel
theorem dX0_touches_5 : decode cX0_touches 5 = .ok (.invokestatic 48, 3) := by decide +kernel
theorem dX0_touches_8 : decode cX0_touches 8 = .ok (.iload_n 2, 1) := by decide +kernel
theorem dX0_touches_9 : decode cX0_touches 9 = .ok (.if_icmp .eq 15, 3) := by decide +kernel
theorem dX0_touches_12 : decode cX0_touches 12 = .ok (.aload_n 0, 1) := by decide +kernel
theorem dX0_touches_13 : decode cX0_touches 13 = .ok (.getfield 41, 3) := by decide +kernel
theorem dX0_touches_16 : decode cX0_touches 16 = .ok (.iload_n 1, 1) := by decide +kernel
theorem dX0_touches_17 : decode cX0_touches 17 = .ok (.invokestatic 48, 3) := by decide +kernel
theorem dX0_touches_20 : decode cX0_touches 20 = .ok (.iload_n 2, 1) := by decide +kernel
theorem dX0_touches_21 : decode cX0_touches 21 = .ok (.if_icmp .ne 7, 3) := by decide +kernel
theorem dX0_touches_24 : decode cX0_touches 24 = .ok (.iconst 1, 1) := by decide +kernel
theorem dX0_touches_25 : decode cX0_touches 25 = .ok (.goto 4, 3) := by decide +kernel
theorem dX0_touches_28 : decode cX0_touches 28 = .ok (.iconst 0, 1) := by decide +kernel
theorem dX0_touches_29 : decode cX0_touches 29 = .ok (.ireturn, 1) := by decide +kernel
set_option maxRecDepth 20000 in
theorem ggX0_canLink_X0_touches : GoodIn wsX0_canLink wsX0_touches := goodIn_r _ [6, 7, 8, 9, 10, 11, 12, 13, 14, 15, 16, 17, 18, 19, 20, 21] (by decide +kernel) (by decide +kernel)
set_option maxRecDepth 20000 in
theorem gX0_canLink_X0_touches : GoodIn wsX0_canLink (wsV RX0 59 RX0 yX0_touches wsX0_touches) := goodIn_app (goodIn_of _ (by decide +kernel)) ggX0_canLink_X0_touches
theorem dX0_canLink_0 : decode cX0_canLink 0 = .ok (.iload_n 1, 1) := by decide +kernel
theorem dX0_canLink_1 : decode cX0_canLink 1 = .ok (.iload_n 2, 1) := by decide +kernel
theorem dX0_canLink_2 : decode cX0_canLink 2 = .ok (.if_icmp .ne 5, 3) := by decide +kernel
theorem dX0_canLink_5 : decode cX0_canLink 5 = .ok (.iconst 0, 1) := by decide +kernel
theorem dX0_canLink_6 : decode cX0_canLink 6 = .ok (.ireturn, 1) := by decide +kernel
theorem dX0_canLink_7 : decode cX0_canLink 7 = .ok (.iconst 0, 1) := by decide +kernel
theorem dX0_canLink_8 : decode cX0_canLink 8 = .ok (.istore_n 3, 1) := by decide +kernel
theorem dX0_canLink_9 : decode cX0_canLink 9 = .ok (.iload_n 3, 1) := by decide +kernel
theorem dX0_canLink_10 : decode cX0_canLink 10 = .ok (.aload_n 0, 1) := by decide +kernel
theorem dX0_canLink_11 : decode cX0_canLink 11 = .ok (.getfield 15, 3) := by decide +kernel
theorem dX0_canLink_14 : decode cX0_canLink 14 = .ok (.if_icmp .ge 29, 3) := by decide +kernel
theorem dX0_canLink_17 : decode cX0_canLink 17 = .ok (.aload_n 0, 1) := by decide +kernel
theorem dX0_canLink_18 : decode cX0_canLink 18 = .ok (.iload_n 3, 1) := by decide +kernel
theorem dX0_canLink_19 : decode cX0_canLink 19 = .ok (.iload_n 1, 1) := by decide +kernel
theorem dX0_canLink_20 : decode cX0_canLink 20 = .ok (.invokevirtual 59, 3) := by decide +kernel
theorem dX0_canLink_23 : decode cX0_canLink 23 = .ok (.ifCond .eq 14, 3) := by decide +kernel
theorem dX0_canLink_26 : decode cX0_canLink 26 = .ok (.aload_n 0, 1) := by decide +kernel
theorem dX0_canLink_27 : decode cX0_canLink 27 = .ok (.iload_n 3, 1) := by decide +kernel
theorem dX0_canLink_28 : decode cX0_canLink 28 = .ok (.iload_n 2, 1) := by decide +kernel
theorem dX0_canLink_29 : decode cX0_canLink 29 = .ok (.invokevirtual 59, 3) := by decide +kernel
theorem dX0_canLink_32 : decode cX0_canLink 32 = .ok (.ifCond .eq 5, 3) := by decide +kernel
theorem dX0_canLink_35 : decode cX0_canLink 35 = .ok (.iconst 0, 1) := by decide +kernel
theorem dX0_canLink_36 : decode cX0_canLink 36 = .ok (.ireturn, 1) := by decide +kernel
theorem dX0_canLink_37 : decode cX0_canLink 37 = .ok (.iinc 3 1, 3) := by decide +kernel
theorem dX0_canLink_40 : decode cX0_canLink 40 = .ok (.goto (-31), 3) := by decide +kernel
theorem dX0_canLink_43 : decode cX0_canLink 43 = .ok (.iconst 1, 1) := by decide +kernel
theorem dX0_canLink_44 : decode cX0_canLink 44 = .ok (.ireturn, 1) := by decide +kernel
theorem dX0_append_0 : decode cX0_append 0 = .ok (.aload_n 0, 1) := by decide +kernel
theorem dX0_append_1 : decode cX0_append 1 = .ok (.getfield 9, 3) := by decide +kernel
theorem dX0_append_4 : decode cX0_append 4 = .ok (.istore 5, 2) := by decide +kernel
theorem dX0_append_6 : decode cX0_append 6 = .ok (.iload 5, 2) := by decide +kernel
theorem dX0_append_8 : decode cX0_append 8 = .ok (.ifCond .lt 10, 3) := by decide +kernel
theorem dX0_append_11 : decode cX0_append 11 = .ok (.iload 5, 2) := by decide +kernel
theorem dX0_append_13 : decode cX0_append 13 = .ok (.bipush 12, 2) := by decide +kernel
theorem dX0_append_15 : decode cX0_append 15 = .ok (.if_icmp .lt 6, 3) := by decide +kernel
theorem dX0_append_18 : decode cX0_append 18 = .ok (.bipush (-5), 2) := by decide +kernel
theorem dX0_append_20 : decode cX0_append 20 = .ok (.ireturn, 1) := by decide +kernel
theorem dX0_append_21 : decode cX0_append 21 = .ok (.aload_n 0, 1) := by decide +kernel
theorem dX0_append_22 : decode cX0_append 22 = .ok (.getfield 24, 3) := by decide +kernel
theorem dX0_append_25 : decode cX0_append 25 = .ok (.iload 5, 2) := by decide +kernel
theorem dX0_append_27 : decode cX0_append 27 = .ok (.iload_n 1, 1) := by decide +kernel
theorem dX0_append_28 : decode cX0_append 28 = .ok (.iastore, 1) := by decide +kernel
theorem dX0_append_29 : decode cX0_append 29 = .ok (.aload_n 0, 1) := by decide +kernel
theorem dX0_append_30 : decode cX0_append 30 = .ok (.getfield 28, 3) := by decide +kernel
theorem dX0_append_33 : decode cX0_append 33 = .ok (.iload 5, 2) := by decide +kernel
theorem dX0_append_35 : decode cX0_append 35 = .ok (.iload_n 2, 1) := by decide +kernel
theorem dX0_append_36 : decode cX0_append 36 = .ok (.iastore, 1) := by decide +kernel
theorem dX0_append_37 : decode cX0_append 37 = .ok (.aload_n 0, 1) := by decide +kernel
theorem dX0_append_38 : decode cX0_append 38 = .ok (.getfield 31, 3) := by decide +kernel
theorem dX0_append_41 : decode cX0_append 41 = .ok (.iload 5, 2) := by decide +kernel
theorem dX0_append_43 : decode cX0_append 43 = .ok (.iload_n 3, 1) := by decide +kernel
theorem dX0_append_44 : decode cX0_append 44 = .ok (.iastore, 1) := by decide +kernel
theorem dX0_append_45 : decode cX0_append 45 = .ok (.aload_n 0, 1) := by decide +kernel
theorem dX0_append_46 : decode cX0_append 46 = .ok (.getfield 34, 3) := by decide +kernel
theorem dX0_append_49 : decode cX0_append 49 = .ok (.iload 5, 2) := by decide +kernel
theorem dX0_append_51 : decode cX0_append 51 = .ok (.iload 4, 2) := by decide +kernel
theorem dX0_append_53 : decode cX0_append 53 = .ok (.bastore, 1) := by decide +kernel
theorem dX0_append_54 : decode cX0_append 54 = .ok (.aload_n 0, 1) := by decide +kernel
theorem dX0_append_55 : decode cX0_append 55 = .ok (.iload 5, 2) := by decide +kernel
theorem dX0_append_57 : decode cX0_append 57 = .ok (.iconst 1, 1) := by decide +kernel
theorem dX0_append_58 : decode cX0_append 58 = .ok (.iadd, 1) := by decide +kernel
theorem dX0_append_59 : decode cX0_append 59 = .ok (.putfield 9, 3) := by decide +kernel
theorem dX0_append_62 : decode cX0_append 62 = .ok (.iload 5, 2) := by decide +kernel
theorem dX0_append_64 : decode cX0_append 64 = .ok (.ireturn, 1) := by decide +kernel
theorem dX0_link_0 : decode cX0_link 0 = .ok (.aload_n 0, 1) := by decide +kernel
theorem dX0_link_1 : decode cX0_link 1 = .ok (.getfield 15, 3) := by decide +kernel
theorem dX0_link_4 : decode cX0_link 4 = .ok (.istore_n 3, 1) := by decide +kernel
theorem dX0_link_5 : decode cX0_link 5 = .ok (.iload_n 3, 1) := by decide +kernel
theorem dX0_link_6 : decode cX0_link 6 = .ok (.ifCond .lt 9, 3) := by decide +kernel
theorem dX0_link_9 : decode cX0_link 9 = .ok (.iload_n 3, 1) := by decide +kernel
theorem dX0_link_10 : decode cX0_link 10 = .ok (.bipush 20, 2) := by decide +kernel
theorem dX0_link_12 : decode cX0_link 12 = .ok (.if_icmp .lt 6, 3) := by decide +kernel
theorem dX0_link_15 : decode cX0_link 15 = .ok (.bipush (-5), 2) := by decide +kernel
theorem dX0_link_17 : decode cX0_link 17 = .ok (.ireturn, 1) := by decide +kernel
theorem dX0_link_18 : decode cX0_link 18 = .ok (.aload_n 0, 1) := by decide +kernel
theorem dX0_link_19 : decode cX0_link 19 = .ok (.getfield 38, 3) := by decide +kernel
theorem dX0_link_22 : decode cX0_link 22 = .ok (.iload_n 3, 1) := by decide +kernel
theorem dX0_link_23 : decode cX0_link 23 = .ok (.iload_n 1, 1) := by decide +kernel
theorem dX0_link_24 : decode cX0_link 24 = .ok (.iastore, 1) := by decide +kernel
theorem dX0_link_25 : decode cX0_link 25 = .ok (.aload_n 0, 1) := by decide +kernel
theorem dX0_link_26 : decode cX0_link 26 = .ok (.getfield 41, 3) := by decide +kernel
theorem dX0_link_29 : decode cX0_link 29 = .ok (.iload_n 3, 1) := by decide +kernel
theorem dX0_link_30 : decode cX0_link 30 = .ok (.iload_n 2, 1) := by decide +kernel
theorem dX0_link_31 : decode cX0_link 31 = .ok (.iastore, 1) := by decide +kernel
theorem dX0_link_32 : decode cX0_link 32 = .ok (.aload_n 0, 1) := by decide +kernel
theorem dX0_link_33 : decode cX0_link 33 = .ok (.iload_n 3, 1) := by decide +kernel
theorem dX0_link_34 : decode cX0_link 34 = .ok (.iconst 1, 1) := by decide +kernel
theorem dX0_link_35 : decode cX0_link 35 = .ok (.iadd, 1) := by decide +kernel
theorem dX0_link_36 : decode cX0_link 36 = .ok (.putfield 15, 3) := by decide +kernel
theorem dX0_link_39 : decode cX0_link 39 = .ok (.iload_n 3, 1) := by decide +kernel
theorem dX0_link_40 : decode cX0_link 40 = .ok (.ireturn, 1) := by decide +kernel
set_option maxRecDepth 20000 in
theorem ggX0_unlink_X4_at : GoodIn wsX0_unlink wsX4_at := goodIn_r _ [10] (by decide +kernel) (by decide +kernel)
set_option maxRecDepth 20000 in
theorem gX0_unlink_X4_at_n48 : GoodIn wsX0_unlink (wsX4_at) := ggX0_unlink_X4_at
set_option maxRecDepth 20000 in
theorem ggX0_unlink_X4_put : GoodIn wsX0_unlink wsX4_put := goodIn_r _ [12] (by decide +kernel) (by decide +kernel)
set_option maxRecDepth 20000 in
theorem gX0_unlink_X4_put_n69 : GoodIn wsX0_unlink (wsX4_put) := ggX0_unlink_X4_put
theorem dX0_unlink_0 : decode cX0_unlink 0 = .ok (.iload_n 1, 1) := by decide +kernel
theorem dX0_unlink_1 : decode cX0_unlink 1 = .ok (.iconst 0, 1) := by decide +kernel
theorem dX0_unlink_2 : decode cX0_unlink 2 = .ok (.invokestatic 63, 3) := by decide +kernel
theorem dX0_unlink_5 : decode cX0_unlink 5 = .ok (.istore_n 2, 1) := by decide +kernel
theorem dX0_unlink_6 : decode cX0_unlink 6 = .ok (.iload_n 2, 1) := by decide +kernel
theorem dX0_unlink_7 : decode cX0_unlink 7 = .ok (.iconst 1, 1) := by decide +kernel
theorem dX0_unlink_8 : decode cX0_unlink 8 = .ok (.iadd, 1) := by decide +kernel
theorem dX0_unlink_9 : decode cX0_unlink 9 = .ok (.aload_n 0, 1) := by decide +kernel
theorem dX0_unlink_10 : decode cX0_unlink 10 = .ok (.getfield 15, 3) := by decide +kernel
theorem dX0_unlink_13 : decode cX0_unlink 13 = .ok (.if_icmp .ge 45, 3) := by decide +kernel
theorem dX0_unlink_16 : decode cX0_unlink 16 = .ok (.aload_n 0, 1) := by decide +kernel
theorem dX0_unlink_17 : decode cX0_unlink 17 = .ok (.getfield 38, 3) := by decide +kernel
theorem dX0_unlink_20 : decode cX0_unlink 20 = .ok (.iload_n 2, 1) := by decide +kernel
theorem dX0_unlink_21 : decode cX0_unlink 21 = .ok (.aload_n 0, 1) := by decide +kernel
theorem dX0_unlink_22 : decode cX0_unlink 22 = .ok (.getfield 38, 3) := by decide +kernel
theorem dX0_unlink_25 : decode cX0_unlink 25 = .ok (.iload_n 2, 1) := by decide +kernel
theorem dX0_unlink_26 : decode cX0_unlink 26 = .ok (.iconst 1, 1) := by decide +kernel
theorem dX0_unlink_27 : decode cX0_unlink 27 = .ok (.iadd, 1) := by decide +kernel
theorem dX0_unlink_28 : decode cX0_unlink 28 = .ok (.invokestatic 48, 3) := by decide +kernel
theorem dX0_unlink_31 : decode cX0_unlink 31 = .ok (.invokestatic 69, 3) := by decide +kernel
theorem dX0_unlink_34 : decode cX0_unlink 34 = .ok (.aload_n 0, 1) := by decide +kernel
theorem dX0_unlink_35 : decode cX0_unlink 35 = .ok (.getfield 41, 3) := by decide +kernel
theorem dX0_unlink_38 : decode cX0_unlink 38 = .ok (.iload_n 2, 1) := by decide +kernel
theorem dX0_unlink_39 : decode cX0_unlink 39 = .ok (.aload_n 0, 1) := by decide +kernel
theorem dX0_unlink_40 : decode cX0_unlink 40 = .ok (.getfield 41, 3) := by decide +kernel
theorem dX0_unlink_43 : decode cX0_unlink 43 = .ok (.iload_n 2, 1) := by decide +kernel
theorem dX0_unlink_44 : decode cX0_unlink 44 = .ok (.iconst 1, 1) := by decide +kernel
theorem dX0_unlink_45 : decode cX0_unlink 45 = .ok (.iadd, 1) := by decide +kernel
theorem dX0_unlink_46 : decode cX0_unlink 46 = .ok (.invokestatic 48, 3) := by decide +kernel
theorem dX0_unlink_49 : decode cX0_unlink 49 = .ok (.invokestatic 69, 3) := by decide +kernel
theorem dX0_unlink_52 : decode cX0_unlink 52 = .ok (.iinc 2 1, 3) := by decide +kernel
theorem dX0_unlink_55 : decode cX0_unlink 55 = .ok (.goto (-49), 3) := by decide +kernel
theorem dX0_unlink_58 : decode cX0_unlink 58 = .ok (.aload_n 0, 1) := by decide +kernel
theorem dX0_unlink_59 : decode cX0_unlink 59 = .ok (.dup, 1) := by decide +kernel
theorem dX0_unlink_60 : decode cX0_unlink 60 = .ok (.getfield 15, 3) := by decide +kernel
theorem dX0_unlink_63 : decode cX0_unlink 63 = .ok (.iconst 1, 1) := by decide +kernel
theorem dX0_unlink_64 : decode cX0_unlink 64 = .ok (.isub, 1) := by decide +kernel
theorem dX0_unlink_65 : decode cX0_unlink 65 = .ok (.putfield 15, 3) := by decide +kernel
theorem dX0_unlink_68 : decode cX0_unlink 68 = .ok (.return_, 1) := by decide +kernel
set_option maxRecDepth 20000 in
theorem ggX0_drop_X0_touches : GoodIn wsX0_drop wsX0_touches := goodIn_r _ [17, 2, 3, 18, 19, 20, 30, 31, 32, 33, 34, 35, 36, 37, 38, 39] (by decide +kernel) (by decide +kernel)
set_option maxRecDepth 20000 in
theorem gX0_drop_X0_touches : GoodIn wsX0_drop (wsV RX0 59 RX0 yX0_touches wsX0_touches) := goodIn_app (goodIn_of _ (by decide +kernel)) ggX0_drop_X0_touches
set_option maxRecDepth 20000 in
theorem ggX0_drop_X0_unlink : GoodIn wsX0_drop wsX0_unlink := goodIn_r _ [24, 4, 5, 6, 7, 1, 2, 3, 18, 19, 20, 25, 26, 30, 31, 32, 33, 34, 35, 36, 37, 38, 39] (by decide +kernel) (by decide +kernel)
set_option maxRecDepth 20000 in
theorem gX0_drop_X0_unlink : GoodIn wsX0_drop (wsV RX0 73 RX0 yX0_unlink wsX0_unlink) := goodIn_app (goodIn_of _ (by decide +kernel)) ggX0_drop_X0_unlink
set_option maxRecDepth 20000 in
theorem ggX0_drop_X4_at : GoodIn wsX0_drop wsX4_at := goodIn_r _ [20] (by decide +kernel) (by decide +kernel)
set_option maxRecDepth 20000 in
theorem gX0_drop_X4_at_n48 : GoodIn wsX0_drop (wsX4_at) := ggX0_drop_X4_at
set_option maxRecDepth 20000 in
theorem ggX0_drop_X0_without : GoodIn wsX0_drop wsX0_without := goodIn_r _ [29] (by decide +kernel) (by decide +kernel)
set_option maxRecDepth 20000 in
theorem gX0_drop_X0_without : GoodIn wsX0_drop (va_wsS RX0 77 yX0_without wsX0_without) := goodIn_app (goodIn_of _ (by decide +kernel)) ggX0_drop_X0_without
set_option maxRecDepth 20000 in
theorem ggX0_drop_X4_put : GoodIn wsX0_drop wsX4_put := goodIn_r _ [26] (by decide +kernel) (by decide +kernel)
set_option maxRecDepth 20000 in
theorem gX0_drop_X4_put_n69 : GoodIn wsX0_drop (wsX4_put) := ggX0_drop_X4_put
theorem dX0_drop_0 : decode cX0_drop 0 = .ok (.aload_n 0, 1) := by decide +kernel
theorem dX0_drop_1 : decode cX0_drop 1 = .ok (.getfield 15, 3) := by decide +kernel
theorem dX0_drop_4 : decode cX0_drop 4 = .ok (.iconst 1, 1) := by decide +kernel
theorem dX0_drop_5 : decode cX0_drop 5 = .ok (.isub, 1) := by decide +kernel
theorem dX0_drop_6 : decode cX0_drop 6 = .ok (.istore_n 2, 1) := by decide +kernel
theorem dX0_drop_7 : decode cX0_drop 7 = .ok (.iload_n 2, 1) := by decide +kernel
theorem dX0_drop_8 : decode cX0_drop 8 = .ok (.ifCond .lt 23, 3) := by decide +kernel
theorem dX0_drop_11 : decode cX0_drop 11 = .ok (.aload_n 0, 1) := by decide +kernel
theorem dX0_drop_12 : decode cX0_drop 12 = .ok (.iload_n 2, 1) := by decide +kernel
theorem dX0_drop_13 : decode cX0_drop 13 = .ok (.iload_n 1, 1) := by decide +kernel
theorem dX0_drop_14 : decode cX0_drop 14 = .ok (.invokevirtual 59, 3) := by decide +kernel
theorem dX0_drop_17 : decode cX0_drop 17 = .ok (.ifCond .eq 8, 3) := by decide +kernel
theorem dX0_drop_20 : decode cX0_drop 20 = .ok (.aload_n 0, 1) := by decide +kernel
theorem dX0_drop_21 : decode cX0_drop 21 = .ok (.iload_n 2, 1) := by decide +kernel
theorem dX0_drop_22 : decode cX0_drop 22 = .ok (.invokevirtual 73, 3) := by decide +kernel
theorem dX0_drop_25 : decode cX0_drop 25 = .ok (.iinc 2 (-1), 3) := by decide +kernel
theorem dX0_drop_28 : decode cX0_drop 28 = .ok (.goto (-21), 3) := by decide +kernel
theorem dX0_drop_31 : decode cX0_drop 31 = .ok (.iconst 0, 1) := by decide +kernel
theorem dX0_drop_32 : decode cX0_drop 32 = .ok (.istore_n 2, 1) := by decide +kernel
theorem dX0_drop_33 : decode cX0_drop 33 = .ok (.iload_n 2, 1) := by decide +kernel
theorem dX0_drop_34 : decode cX0_drop 34 = .ok (.aload_n 0, 1) := by decide +kernel
theorem dX0_drop_35 : decode cX0_drop 35 = .ok (.getfield 15, 3) := by decide +kernel
theorem dX0_drop_38 : decode cX0_drop 38 = .ok (.if_icmp .ge 49, 3) := by decide +kernel
theorem dX0_drop_41 : decode cX0_drop 41 = .ok (.aload_n 0, 1) := by decide +kernel
theorem dX0_drop_42 : decode cX0_drop 42 = .ok (.getfield 38, 3) := by decide +kernel
theorem dX0_drop_45 : decode cX0_drop 45 = .ok (.iload_n 2, 1) := by decide +kernel
theorem dX0_drop_46 : decode cX0_drop 46 = .ok (.iload_n 1, 1) := by decide +kernel
theorem dX0_drop_47 : decode cX0_drop 47 = .ok (.aload_n 0, 1) := by decide +kernel
theorem dX0_drop_48 : decode cX0_drop 48 = .ok (.getfield 38, 3) := by decide +kernel
theorem dX0_drop_51 : decode cX0_drop 51 = .ok (.iload_n 2, 1) := by decide +kernel
theorem dX0_drop_52 : decode cX0_drop 52 = .ok (.invokestatic 48, 3) := by decide +kernel
theorem dX0_drop_55 : decode cX0_drop 55 = .ok (.invokestatic 77, 3) := by decide +kernel
theorem dX0_drop_58 : decode cX0_drop 58 = .ok (.invokestatic 69, 3) := by decide +kernel
theorem dX0_drop_61 : decode cX0_drop 61 = .ok (.aload_n 0, 1) := by decide +kernel
theorem dX0_drop_62 : decode cX0_drop 62 = .ok (.getfield 41, 3) := by decide +kernel
theorem dX0_drop_65 : decode cX0_drop 65 = .ok (.iload_n 2, 1) := by decide +kernel
theorem dX0_drop_66 : decode cX0_drop 66 = .ok (.iload_n 1, 1) := by decide +kernel
theorem dX0_drop_67 : decode cX0_drop 67 = .ok (.aload_n 0, 1) := by decide +kernel
theorem dX0_drop_68 : decode cX0_drop 68 = .ok (.getfield 41, 3) := by decide +kernel
theorem dX0_drop_71 : decode cX0_drop 71 = .ok (.iload_n 2, 1) := by decide +kernel
theorem dX0_drop_72 : decode cX0_drop 72 = .ok (.invokestatic 48, 3) := by decide +kernel
theorem dX0_drop_75 : decode cX0_drop 75 = .ok (.invokestatic 77, 3) := by decide +kernel
theorem dX0_drop_78 : decode cX0_drop 78 = .ok (.invokestatic 69, 3) := by decide +kernel
theorem dX0_drop_81 : decode cX0_drop 81 = .ok (.iinc 2 1, 3) := by decide +kernel
theorem dX0_drop_84 : decode cX0_drop 84 = .ok (.goto (-51), 3) := by decide +kernel
theorem dX0_drop_87 : decode cX0_drop 87 = .ok (.iload_n 1, 1) := by decide +kernel
theorem dX0_drop_88 : decode cX0_drop 88 = .ok (.iconst 0, 1) := by decide +kernel
theorem dX0_drop_89 : decode cX0_drop 89 = .ok (.invokestatic 63, 3) := by decide +kernel
theorem dX0_drop_92 : decode cX0_drop 92 = .ok (.istore_n 2, 1) := by decide +kernel
theorem dX0_drop_93 : decode cX0_drop 93 = .ok (.iload_n 2, 1) := by decide +kernel
theorem dX0_drop_94 : decode cX0_drop 94 = .ok (.iconst 1, 1) := by decide +kernel
theorem dX0_drop_95 : decode cX0_drop 95 = .ok (.iadd, 1) := by decide +kernel
theorem dX0_drop_96 : decode cX0_drop 96 = .ok (.bipush 12, 2) := by decide +kernel
theorem dX0_drop_98 : decode cX0_drop 98 = .ok (.if_icmp .ge 65, 3) := by decide +kernel
theorem dX0_drop_101 : decode cX0_drop 101 = .ok (.aload_n 0, 1) := by decide +kernel
theorem dX0_drop_102 : decode cX0_drop 102 = .ok (.getfield 24, 3) := by decide +kernel
theorem dX0_drop_105 : decode cX0_drop 105 = .ok (.iload_n 2, 1) := by decide +kernel
theorem dX0_drop_106 : decode cX0_drop 106 = .ok (.aload_n 0, 1) := by decide +kernel
theorem dX0_drop_107 : decode cX0_drop 107 = .ok (.getfield 24, 3) := by decide +kernel
theorem dX0_drop_110 : decode cX0_drop 110 = .ok (.iload_n 2, 1) := by decide +kernel
theorem dX0_drop_111 : decode cX0_drop 111 = .ok (.iconst 1, 1) := by decide +kernel
theorem dX0_drop_112 : decode cX0_drop 112 = .ok (.iadd, 1) := by decide +kernel
theorem dX0_drop_113 : decode cX0_drop 113 = .ok (.iaload, 1) := by decide +kernel
theorem dX0_drop_114 : decode cX0_drop 114 = .ok (.iastore, 1) := by decide +kernel
theorem dX0_drop_115 : decode cX0_drop 115 = .ok (.aload_n 0, 1) := by decide +kernel
theorem dX0_drop_116 : decode cX0_drop 116 = .ok (.getfield 28, 3) := by decide +kernel
theorem dX0_drop_119 : decode cX0_drop 119 = .ok (.iload_n 2, 1) := by decide +kernel
theorem dX0_drop_120 : decode cX0_drop 120 = .ok (.aload_n 0, 1) := by decide +kernel
theorem dX0_drop_121 : decode cX0_drop 121 = .ok (.getfield 28, 3) := by decide +kernel
theorem dX0_drop_124 : decode cX0_drop 124 = .ok (.iload_n 2, 1) := by decide +kernel
theorem dX0_drop_125 : decode cX0_drop 125 = .ok (.iconst 1, 1) := by decide +kernel
theorem dX0_drop_126 : decode cX0_drop 126 = .ok (.iadd, 1) := by decide +kernel
theorem dX0_drop_127 : decode cX0_drop 127 = .ok (.iaload, 1) := by decide +kernel
theorem dX0_drop_128 : decode cX0_drop 128 = .ok (.iastore, 1) := by decide +kernel
theorem dX0_drop_129 : decode cX0_drop 129 = .ok (.aload_n 0, 1) := by decide +kernel
theorem dX0_drop_130 : decode cX0_drop 130 = .ok (.getfield 31, 3) := by decide +kernel
theorem dX0_drop_133 : decode cX0_drop 133 = .ok (.iload_n 2, 1) := by decide +kernel
theorem dX0_drop_134 : decode cX0_drop 134 = .ok (.aload_n 0, 1) := by decide +kernel
theorem dX0_drop_135 : decode cX0_drop 135 = .ok (.getfield 31, 3) := by decide +kernel
theorem dX0_drop_138 : decode cX0_drop 138 = .ok (.iload_n 2, 1) := by decide +kernel
theorem dX0_drop_139 : decode cX0_drop 139 = .ok (.iconst 1, 1) := by decide +kernel
theorem dX0_drop_140 : decode cX0_drop 140 = .ok (.iadd, 1) := by decide +kernel
theorem dX0_drop_141 : decode cX0_drop 141 = .ok (.iaload, 1) := by decide +kernel
theorem dX0_drop_142 : decode cX0_drop 142 = .ok (.iastore, 1) := by decide +kernel
theorem dX0_drop_143 : decode cX0_drop 143 = .ok (.aload_n 0, 1) := by decide +kernel
theorem dX0_drop_144 : decode cX0_drop 144 = .ok (.getfield 34, 3) := by decide +kernel
theorem dX0_drop_147 : decode cX0_drop 147 = .ok (.iload_n 2, 1) := by decide +kernel
theorem dX0_drop_148 : decode cX0_drop 148 = .ok (.aload_n 0, 1) := by decide +kernel
theorem dX0_drop_149 : decode cX0_drop 149 = .ok (.getfield 34, 3) := by decide +kernel
theorem dX0_drop_152 : decode cX0_drop 152 = .ok (.iload_n 2, 1) := by decide +kernel
theorem dX0_drop_153 : decode cX0_drop 153 = .ok (.iconst 1, 1) := by decide +kernel
theorem dX0_drop_154 : decode cX0_drop 154 = .ok (.iadd, 1) := by decide +kernel
theorem dX0_drop_155 : decode cX0_drop 155 = .ok (.baload, 1) := by decide +kernel
theorem dX0_drop_156 : decode cX0_drop 156 = .ok (.bastore, 1) := by decide +kernel
theorem dX0_drop_157 : decode cX0_drop 157 = .ok (.iinc 2 1, 3) := by decide +kernel
theorem dX0_drop_160 : decode cX0_drop 160 = .ok (.goto (-67), 3) := by decide +kernel
theorem dX0_drop_163 : decode cX0_drop 163 = .ok (.aload_n 0, 1) := by decide +kernel
theorem dX0_drop_164 : decode cX0_drop 164 = .ok (.dup, 1) := by decide +kernel
theorem dX0_drop_165 : decode cX0_drop 165 = .ok (.getfield 9, 3) := by decide +kernel
theorem dX0_drop_168 : decode cX0_drop 168 = .ok (.iconst 1, 1) := by decide +kernel
theorem dX0_drop_169 : decode cX0_drop 169 = .ok (.isub, 1) := by decide +kernel
theorem dX0_drop_170 : decode cX0_drop 170 = .ok (.putfield 9, 3) := by decide +kernel
theorem dX0_drop_173 : decode cX0_drop 173 = .ok (.return_, 1) := by decide +kernel
theorem dX0_without_0 : decode cX0_without 0 = .ok (.iload_n 1, 1) := by decide +kernel
theorem dX0_without_1 : decode cX0_without 1 = .ok (.iload_n 0, 1) := by decide +kernel
theorem dX0_without_2 : decode cX0_without 2 = .ok (.if_icmp .le 9, 3) := by decide +kernel
theorem dX0_without_5 : decode cX0_without 5 = .ok (.iload_n 1, 1) := by decide +kernel
theorem dX0_without_6 : decode cX0_without 6 = .ok (.iconst 1, 1) := by decide +kernel
theorem dX0_without_7 : decode cX0_without 7 = .ok (.isub, 1) := by decide +kernel
theorem dX0_without_8 : decode cX0_without 8 = .ok (.goto 4, 3) := by decide +kernel
theorem dX0_without_11 : decode cX0_without 11 = .ok (.iload_n 1, 1) := by decide +kernel
theorem dX0_without_12 : decode cX0_without 12 = .ok (.ireturn, 1) := by decide +kernel
