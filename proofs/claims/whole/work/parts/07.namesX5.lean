theorem dX5_init_0 : decode cX5_init 0 = .ok (.aload_n 0, 1) := by decide +kernel
theorem dX5_init_1 : decode cX5_init 1 = .ok (.invokespecial 1, 3) := by decide +kernel
theorem dX5_init_4 : decode cX5_init 4 = .ok (.aload_n 0, 1) := by decide +kernel
theorem dX5_init_5 : decode cX5_init 5 = .ok (.sipush 644, 3) := by decide +kernel
theorem dX5_init_8 : decode cX5_init 8 = .ok (.newarray .int, 2) := by decide +kernel
theorem dX5_init_10 : decode cX5_init 10 = .ok (.putfield 7, 3) := by decide +kernel
theorem dX5_init_13 : decode cX5_init 13 = .ok (.aload_n 0, 1) := by decide +kernel
theorem dX5_init_14 : decode cX5_init 14 = .ok (.bipush 12, 2) := by decide +kernel
theorem dX5_init_16 : decode cX5_init 16 = .ok (.newarray .int, 2) := by decide +kernel
theorem dX5_init_18 : decode cX5_init 18 = .ok (.putfield 13, 3) := by decide +kernel
theorem dX5_init_21 : decode cX5_init 21 = .ok (.aload_n 0, 1) := by decide +kernel
theorem dX5_init_22 : decode cX5_init 22 = .ok (.bipush 12, 2) := by decide +kernel
theorem dX5_init_24 : decode cX5_init 24 = .ok (.newarray .int, 2) := by decide +kernel
theorem dX5_init_26 : decode cX5_init 26 = .ok (.putfield 16, 3) := by decide +kernel
theorem dX5_init_29 : decode cX5_init 29 = .ok (.aload_n 0, 1) := by decide +kernel
theorem dX5_init_30 : decode cX5_init 30 = .ok (.bipush 12, 2) := by decide +kernel
theorem dX5_init_32 : decode cX5_init 32 = .ok (.newarray .int, 2) := by decide +kernel
theorem dX5_init_34 : decode cX5_init 34 = .ok (.putfield 19, 3) := by decide +kernel
theorem dX5_init_37 : decode cX5_init 37 = .ok (.aload_n 0, 1) := by decide +kernel
theorem dX5_init_38 : decode cX5_init 38 = .ok (.bipush 12, 2) := by decide +kernel
theorem dX5_init_40 : decode cX5_init 40 = .ok (.newarray .int, 2) := by decide +kernel
theorem dX5_init_42 : decode cX5_init 42 = .ok (.putfield 22, 3) := by decide +kernel
theorem dX5_init_45 : decode cX5_init 45 = .ok (.aload_n 0, 1) := by decide +kernel
theorem dX5_init_46 : decode cX5_init 46 = .ok (.bipush 120, 2) := by decide +kernel
theorem dX5_init_48 : decode cX5_init 48 = .ok (.newarray .int, 2) := by decide +kernel
theorem dX5_init_50 : decode cX5_init 50 = .ok (.putfield 25, 3) := by decide +kernel
theorem dX5_init_53 : decode cX5_init 53 = .ok (.aload_n 0, 1) := by decide +kernel
theorem dX5_init_54 : decode cX5_init 54 = .ok (.getfield 7, 3) := by decide +kernel
theorem dX5_init_57 : decode cX5_init 57 = .ok (.iconst 2, 1) := by decide +kernel
theorem dX5_init_58 : decode cX5_init 58 = .ok (.bipush 50, 2) := by decide +kernel
theorem dX5_init_60 : decode cX5_init 60 = .ok (.iastore, 1) := by decide +kernel
theorem dX5_init_61 : decode cX5_init 61 = .ok (.aload_n 0, 1) := by decide +kernel
theorem dX5_init_62 : decode cX5_init 62 = .ok (.getfield 7, 3) := by decide +kernel
theorem dX5_init_65 : decode cX5_init 65 = .ok (.iconst 3, 1) := by decide +kernel
theorem dX5_init_66 : decode cX5_init 66 = .ok (.sipush 140, 3) := by decide +kernel
theorem dX5_init_69 : decode cX5_init 69 = .ok (.iastore, 1) := by decide +kernel
theorem dX5_init_70 : decode cX5_init 70 = .ok (.return_, 1) := by decide +kernel
theorem dX5_in_0 : decode cX5_in 0 = .ok (.iload_n 0, 1) := by decide +kernel
theorem dX5_in_1 : decode cX5_in 1 = .ok (.iload_n 1, 1) := by decide +kernel
theorem dX5_in_2 : decode cX5_in 2 = .ok (.if_icmp .lt 12, 3) := by decide +kernel
theorem dX5_in_5 : decode cX5_in 5 = .ok (.iload_n 0, 1) := by decide +kernel
theorem dX5_in_6 : decode cX5_in 6 = .ok (.iload_n 2, 1) := by decide +kernel
theorem dX5_in_7 : decode cX5_in 7 = .ok (.if_icmp .gt 7, 3) := by decide +kernel
theorem dX5_in_10 : decode cX5_in 10 = .ok (.iconst 1, 1) := by decide +kernel
theorem dX5_in_11 : decode cX5_in 11 = .ok (.goto 4, 3) := by decide +kernel
theorem dX5_in_14 : decode cX5_in 14 = .ok (.iconst 0, 1) := by decide +kernel
theorem dX5_in_15 : decode cX5_in 15 = .ok (.ireturn, 1) := by decide +kernel
theorem dX5_copies_0 : decode cX5_copies 0 = .ok (.iconst 0, 1) := by decide +kernel
theorem dX5_copies_1 : decode cX5_copies 1 = .ok (.istore_n 3, 1) := by decide +kernel
theorem dX5_copies_2 : decode cX5_copies 2 = .ok (.iload_n 3, 1) := by decide +kernel
theorem dX5_copies_3 : decode cX5_copies 3 = .ok (.bipush 92, 2) := by decide +kernel
theorem dX5_copies_5 : decode cX5_copies 5 = .ok (.if_icmp .ge 31, 3) := by decide +kernel
theorem dX5_copies_8 : decode cX5_copies 8 = .ok (.aload_n 0, 1) := by decide +kernel
theorem dX5_copies_9 : decode cX5_copies 9 = .ok (.getfield 7, 3) := by decide +kernel
theorem dX5_copies_12 : decode cX5_copies 12 = .ok (.bipush 92, 2) := by decide +kernel
theorem dX5_copies_14 : decode cX5_copies 14 = .ok (.iload_n 2, 1) := by decide +kernel
theorem dX5_copies_15 : decode cX5_copies 15 = .ok (.imul, 1) := by decide +kernel
theorem dX5_copies_16 : decode cX5_copies 16 = .ok (.iload_n 3, 1) := by decide +kernel
theorem dX5_copies_17 : decode cX5_copies 17 = .ok (.iadd, 1) := by decide +kernel
theorem dX5_copies_18 : decode cX5_copies 18 = .ok (.aload_n 0, 1) := by decide +kernel
theorem dX5_copies_19 : decode cX5_copies 19 = .ok (.getfield 7, 3) := by decide +kernel
theorem dX5_copies_22 : decode cX5_copies 22 = .ok (.bipush 92, 2) := by decide +kernel
theorem dX5_copies_24 : decode cX5_copies 24 = .ok (.iload_n 1, 1) := by decide +kernel
theorem dX5_copies_25 : decode cX5_copies 25 = .ok (.imul, 1) := by decide +kernel
theorem dX5_copies_26 : decode cX5_copies 26 = .ok (.iload_n 3, 1) := by decide +kernel
theorem dX5_copies_27 : decode cX5_copies 27 = .ok (.iadd, 1) := by decide +kernel
theorem dX5_copies_28 : decode cX5_copies 28 = .ok (.iaload, 1) := by decide +kernel
theorem dX5_copies_29 : decode cX5_copies 29 = .ok (.iastore, 1) := by decide +kernel
theorem dX5_copies_30 : decode cX5_copies 30 = .ok (.iinc 3 1, 3) := by decide +kernel
theorem dX5_copies_33 : decode cX5_copies 33 = .ok (.goto (-31), 3) := by decide +kernel
theorem dX5_copies_36 : decode cX5_copies 36 = .ok (.return_, 1) := by decide +kernel
set_option maxRecDepth 20000 in
theorem ggX5_saves_X5_copies : GoodIn wsX5_saves wsX5_copies := goodIn_r _ [6, 7, 8, 9, 10, 11, 12, 13, 14, 15, 16, 17, 18, 19] (by decide +kernel) (by decide +kernel)
set_option maxRecDepth 20000 in
theorem gX5_saves_X5_copies : GoodIn wsX5_saves (wsV RX5 32 RX5 yX5_copies wsX5_copies) := goodIn_app (goodIn_of _ (by decide +kernel)) ggX5_saves_X5_copies
theorem dX5_saves_0 : decode cX5_saves 0 = .ok (.iconst 1, 1) := by decide +kernel
theorem dX5_saves_1 : decode cX5_saves 1 = .ok (.istore_n 1, 1) := by decide +kernel
theorem dX5_saves_2 : decode cX5_saves 2 = .ok (.iload_n 1, 1) := by decide +kernel
theorem dX5_saves_3 : decode cX5_saves 3 = .ok (.iconst 5, 1) := by decide +kernel
theorem dX5_saves_4 : decode cX5_saves 4 = .ok (.if_icmp .ge 25, 3) := by decide +kernel
theorem dX5_saves_7 : decode cX5_saves 7 = .ok (.aload_n 0, 1) := by decide +kernel
theorem dX5_saves_8 : decode cX5_saves 8 = .ok (.getfield 28, 3) := by decide +kernel
theorem dX5_saves_11 : decode cX5_saves 11 = .ok (.iconst 5, 1) := by decide +kernel
theorem dX5_saves_12 : decode cX5_saves 12 = .ok (.if_icmp .ne 17, 3) := by decide +kernel
theorem dX5_saves_15 : decode cX5_saves 15 = .ok (.aload_n 0, 1) := by decide +kernel
theorem dX5_saves_16 : decode cX5_saves 16 = .ok (.iload_n 1, 1) := by decide +kernel
theorem dX5_saves_17 : decode cX5_saves 17 = .ok (.iconst 1, 1) := by decide +kernel
theorem dX5_saves_18 : decode cX5_saves 18 = .ok (.iadd, 1) := by decide +kernel
theorem dX5_saves_19 : decode cX5_saves 19 = .ok (.iload_n 1, 1) := by decide +kernel
theorem dX5_saves_20 : decode cX5_saves 20 = .ok (.invokevirtual 32, 3) := by decide +kernel
theorem dX5_saves_23 : decode cX5_saves 23 = .ok (.iinc 1 1, 3) := by decide +kernel
theorem dX5_saves_26 : decode cX5_saves 26 = .ok (.goto (-24), 3) := by decide +kernel
theorem dX5_saves_29 : decode cX5_saves 29 = .ok (.aload_n 0, 1) := by decide +kernel
theorem dX5_saves_30 : decode cX5_saves 30 = .ok (.dup, 1) := by decide +kernel
theorem dX5_saves_31 : decode cX5_saves 31 = .ok (.getfield 28, 3) := by decide +kernel
theorem dX5_saves_34 : decode cX5_saves 34 = .ok (.aload_n 0, 1) := by decide +kernel
theorem dX5_saves_35 : decode cX5_saves 35 = .ok (.getfield 28, 3) := by decide +kernel
theorem dX5_saves_38 : decode cX5_saves 38 = .ok (.iconst 5, 1) := by decide +kernel
theorem dX5_saves_39 : decode cX5_saves 39 = .ok (.if_icmp .ne 7, 3) := by decide +kernel
theorem dX5_saves_42 : decode cX5_saves 42 = .ok (.iconst 1, 1) := by decide +kernel
theorem dX5_saves_43 : decode cX5_saves 43 = .ok (.goto 4, 3) := by decide +kernel
theorem dX5_saves_46 : decode cX5_saves 46 = .ok (.iconst 0, 1) := by decide +kernel
theorem dX5_saves_47 : decode cX5_saves 47 = .ok (.isub, 1) := by decide +kernel
theorem dX5_saves_48 : decode cX5_saves 48 = .ok (.putfield 28, 3) := by decide +kernel
theorem dX5_saves_51 : decode cX5_saves 51 = .ok (.aload_n 0, 1) := by decide +kernel
theorem dX5_saves_52 : decode cX5_saves 52 = .ok (.dup, 1) := by decide +kernel
theorem dX5_saves_53 : decode cX5_saves 53 = .ok (.getfield 28, 3) := by decide +kernel
theorem dX5_saves_56 : decode cX5_saves 56 = .ok (.iconst 1, 1) := by decide +kernel
theorem dX5_saves_57 : decode cX5_saves 57 = .ok (.iadd, 1) := by decide +kernel
theorem dX5_saves_58 : decode cX5_saves 58 = .ok (.putfield 28, 3) := by decide +kernel
theorem dX5_saves_61 : decode cX5_saves 61 = .ok (.aload_n 0, 1) := by decide +kernel
theorem dX5_saves_62 : decode cX5_saves 62 = .ok (.iconst 0, 1) := by decide +kernel
theorem dX5_saves_63 : decode cX5_saves 63 = .ok (.aload_n 0, 1) := by decide +kernel
theorem dX5_saves_64 : decode cX5_saves 64 = .ok (.getfield 28, 3) := by decide +kernel
theorem dX5_saves_67 : decode cX5_saves 67 = .ok (.invokevirtual 32, 3) := by decide +kernel
theorem dX5_saves_70 : decode cX5_saves 70 = .ok (.return_, 1) := by decide +kernel
theorem dX5_of_0 : decode cX5_of 0 = .ok (.aload_n 0, 1) := by decide +kernel
theorem dX5_of_1 : decode cX5_of 1 = .ok (.getfield 7, 3) := by decide +kernel
theorem dX5_of_4 : decode cX5_of 4 = .ok (.iconst 4, 1) := by decide +kernel
theorem dX5_of_5 : decode cX5_of 5 = .ok (.iconst 4, 1) := by decide +kernel
theorem dX5_of_6 : decode cX5_of 6 = .ok (.iload_n 1, 1) := by decide +kernel
theorem dX5_of_7 : decode cX5_of 7 = .ok (.imul, 1) := by decide +kernel
theorem dX5_of_8 : decode cX5_of 8 = .ok (.iadd, 1) := by decide +kernel
theorem dX5_of_9 : decode cX5_of 9 = .ok (.iload_n 2, 1) := by decide +kernel
theorem dX5_of_10 : decode cX5_of 10 = .ok (.iadd, 1) := by decide +kernel
theorem dX5_of_11 : decode cX5_of 11 = .ok (.iaload, 1) := by decide +kernel
theorem dX5_of_12 : decode cX5_of 12 = .ok (.ireturn, 1) := by decide +kernel
set_option maxRecDepth 20000 in
theorem ggX5_isSection_X5_in : GoodIn wsX5_isSection wsX5_in := goodIn_r _ [5] (by decide +kernel) (by decide +kernel)
set_option maxRecDepth 20000 in
theorem gX5_isSection_X5_in : GoodIn wsX5_isSection (va_wsS RX5 36 yX5_in wsX5_in) := goodIn_app (goodIn_of _ (by decide +kernel)) ggX5_isSection_X5_in
theorem dX5_isSection_0 : decode cX5_isSection 0 = .ok (.iload_n 1, 1) := by decide +kernel
theorem dX5_isSection_1 : decode cX5_isSection 1 = .ok (.iconst 0, 1) := by decide +kernel
theorem dX5_isSection_2 : decode cX5_isSection 2 = .ok (.aload_n 0, 1) := by decide +kernel
theorem dX5_isSection_3 : decode cX5_isSection 3 = .ok (.getfield 7, 3) := by decide +kernel
theorem dX5_isSection_6 : decode cX5_isSection 6 = .ok (.iconst 0, 1) := by decide +kernel
theorem dX5_isSection_7 : decode cX5_isSection 7 = .ok (.iaload, 1) := by decide +kernel
theorem dX5_isSection_8 : decode cX5_isSection 8 = .ok (.iconst 1, 1) := by decide +kernel
theorem dX5_isSection_9 : decode cX5_isSection 9 = .ok (.isub, 1) := by decide +kernel
theorem dX5_isSection_10 : decode cX5_isSection 10 = .ok (.invokestatic 36, 3) := by decide +kernel
theorem dX5_isSection_13 : decode cX5_isSection 13 = .ok (.ireturn, 1) := by decide +kernel
set_option maxRecDepth 20000 in
theorem ggX5_isJoint_X5_in : GoodIn wsX5_isJoint wsX5_in := goodIn_r _ [5] (by decide +kernel) (by decide +kernel)
set_option maxRecDepth 20000 in
theorem gX5_isJoint_X5_in : GoodIn wsX5_isJoint (va_wsS RX5 36 yX5_in wsX5_in) := goodIn_app (goodIn_of _ (by decide +kernel)) ggX5_isJoint_X5_in
theorem dX5_isJoint_0 : decode cX5_isJoint 0 = .ok (.iload_n 1, 1) := by decide +kernel
theorem dX5_isJoint_1 : decode cX5_isJoint 1 = .ok (.iconst 0, 1) := by decide +kernel
theorem dX5_isJoint_2 : decode cX5_isJoint 2 = .ok (.aload_n 0, 1) := by decide +kernel
theorem dX5_isJoint_3 : decode cX5_isJoint 3 = .ok (.getfield 7, 3) := by decide +kernel
theorem dX5_isJoint_6 : decode cX5_isJoint 6 = .ok (.iconst 1, 1) := by decide +kernel
theorem dX5_isJoint_7 : decode cX5_isJoint 7 = .ok (.iaload, 1) := by decide +kernel
theorem dX5_isJoint_8 : decode cX5_isJoint 8 = .ok (.iconst 1, 1) := by decide +kernel
theorem dX5_isJoint_9 : decode cX5_isJoint 9 = .ok (.isub, 1) := by decide +kernel
theorem dX5_isJoint_10 : decode cX5_isJoint 10 = .ok (.invokestatic 36, 3) := by decide +kernel
theorem dX5_isJoint_13 : decode cX5_isJoint 13 = .ok (.ireturn, 1) := by decide +kernel
theorem dX5_areNeighbours_0 : decode cX5_areNeighbours 0 = .ok (.iconst 0, 1) := by decide +kernel
theorem dX5_areNeighbours_1 : decode cX5_areNeighbours 1 = .ok (.istore_n 3, 1) := by decide +kernel
theorem dX5_areNeighbours_2 : decode cX5_areNeighbours 2 = .ok (.iconst 0, 1) := by decide +kernel
theorem dX5_areNeighbours_3 : decode cX5_areNeighbours 3 = .ok (.istore 4, 2) := by decide +kernel
theorem dX5_areNeighbours_5 : decode cX5_areNeighbours 5 = .ok (.iload 4, 2) := by decide +kernel
theorem dX5_areNeighbours_7 : decode cX5_areNeighbours 7 = .ok (.aload_n 0, 1) := by decide +kernel
theorem dX5_areNeighbours_8 : decode cX5_areNeighbours 8 = .ok (.getfield 7, 3) := by decide +kernel
theorem dX5_areNeighbours_11 : decode cX5_areNeighbours 11 = .ok (.iconst 1, 1) := by decide +kernel
theorem dX5_areNeighbours_12 : decode cX5_areNeighbours 12 = .ok (.iaload, 1) := by decide +kernel
theorem dX5_areNeighbours_13 : decode cX5_areNeighbours 13 = .ok (.if_icmp .ge 73, 3) := by decide +kernel
theorem dX5_areNeighbours_16 : decode cX5_areNeighbours 16 = .ok (.aload_n 0, 1) := by decide +kernel
theorem dX5_areNeighbours_17 : decode cX5_areNeighbours 17 = .ok (.getfield 7, 3) := by decide +kernel
theorem dX5_areNeighbours_20 : decode cX5_areNeighbours 20 = .ok (.bipush 52, 2) := by decide +kernel
theorem dX5_areNeighbours_22 : decode cX5_areNeighbours 22 = .ok (.iconst 2, 1) := by decide +kernel
theorem dX5_areNeighbours_23 : decode cX5_areNeighbours 23 = .ok (.iload 4, 2) := by decide +kernel
theorem dX5_areNeighbours_25 : decode cX5_areNeighbours 25 = .ok (.imul, 1) := by decide +kernel
theorem dX5_areNeighbours_26 : decode cX5_areNeighbours 26 = .ok (.iadd, 1) := by decide +kernel
theorem dX5_areNeighbours_27 : decode cX5_areNeighbours 27 = .ok (.iaload, 1) := by decide +kernel
theorem dX5_areNeighbours_28 : decode cX5_areNeighbours 28 = .ok (.istore 5, 2) := by decide +kernel
theorem dX5_areNeighbours_30 : decode cX5_areNeighbours 30 = .ok (.aload_n 0, 1) := by decide +kernel
theorem dX5_areNeighbours_31 : decode cX5_areNeighbours 31 = .ok (.getfield 7, 3) := by decide +kernel
theorem dX5_areNeighbours_34 : decode cX5_areNeighbours 34 = .ok (.bipush 52, 2) := by decide +kernel
theorem dX5_areNeighbours_36 : decode cX5_areNeighbours 36 = .ok (.iconst 2, 1) := by decide +kernel
theorem dX5_areNeighbours_37 : decode cX5_areNeighbours 37 = .ok (.iload 4, 2) := by decide +kernel
theorem dX5_areNeighbours_39 : decode cX5_areNeighbours 39 = .ok (.imul, 1) := by decide +kernel
theorem dX5_areNeighbours_40 : decode cX5_areNeighbours 40 = .ok (.iadd, 1) := by decide +kernel
theorem dX5_areNeighbours_41 : decode cX5_areNeighbours 41 = .ok (.iconst 1, 1) := by decide +kernel
theorem dX5_areNeighbours_42 : decode cX5_areNeighbours 42 = .ok (.iadd, 1) := by decide +kernel
theorem dX5_areNeighbours_43 : decode cX5_areNeighbours 43 = .ok (.iaload, 1) := by decide +kernel
theorem dX5_areNeighbours_44 : decode cX5_areNeighbours 44 = .ok (.istore 6, 2) := by decide +kernel
theorem dX5_areNeighbours_46 : decode cX5_areNeighbours 46 = .ok (.iload_n 3, 1) := by decide +kernel
theorem dX5_areNeighbours_47 : decode cX5_areNeighbours 47 = .ok (.ifCond .ne 27, 3) := by decide +kernel
theorem dX5_areNeighbours_50 : decode cX5_areNeighbours 50 = .ok (.iload 5, 2) := by decide +kernel
theorem dX5_areNeighbours_52 : decode cX5_areNeighbours 52 = .ok (.iload_n 1, 1) := by decide +kernel
theorem dX5_areNeighbours_53 : decode cX5_areNeighbours 53 = .ok (.if_icmp .ne 9, 3) := by decide +kernel
theorem dX5_areNeighbours_56 : decode cX5_areNeighbours 56 = .ok (.iload 6, 2) := by decide +kernel
theorem dX5_areNeighbours_58 : decode cX5_areNeighbours 58 = .ok (.iload_n 2, 1) := by decide +kernel
theorem dX5_areNeighbours_59 : decode cX5_areNeighbours 59 = .ok (.if_icmp .eq 15, 3) := by decide +kernel
theorem dX5_areNeighbours_62 : decode cX5_areNeighbours 62 = .ok (.iload 5, 2) := by decide +kernel
theorem dX5_areNeighbours_64 : decode cX5_areNeighbours 64 = .ok (.iload_n 2, 1) := by decide +kernel
theorem dX5_areNeighbours_65 : decode cX5_areNeighbours 65 = .ok (.if_icmp .ne 13, 3) := by decide +kernel
theorem dX5_areNeighbours_68 : decode cX5_areNeighbours 68 = .ok (.iload 6, 2) := by decide +kernel
theorem dX5_areNeighbours_70 : decode cX5_areNeighbours 70 = .ok (.iload_n 1, 1) := by decide +kernel
theorem dX5_areNeighbours_71 : decode cX5_areNeighbours 71 = .ok (.if_icmp .ne 7, 3) := by decide +kernel
theorem dX5_areNeighbours_74 : decode cX5_areNeighbours 74 = .ok (.iconst 1, 1) := by decide +kernel
theorem dX5_areNeighbours_75 : decode cX5_areNeighbours 75 = .ok (.goto 4, 3) := by decide +kernel
theorem dX5_areNeighbours_78 : decode cX5_areNeighbours 78 = .ok (.iconst 0, 1) := by decide +kernel
theorem dX5_areNeighbours_79 : decode cX5_areNeighbours 79 = .ok (.istore_n 3, 1) := by decide +kernel
theorem dX5_areNeighbours_80 : decode cX5_areNeighbours 80 = .ok (.iinc 4 1, 3) := by decide +kernel
theorem dX5_areNeighbours_83 : decode cX5_areNeighbours 83 = .ok (.goto (-78), 3) := by decide +kernel
theorem dX5_areNeighbours_86 : decode cX5_areNeighbours 86 = .ok (.iload_n 3, 1) := by decide +kernel
theorem dX5_areNeighbours_87 : decode cX5_areNeighbours 87 = .ok (.ireturn, 1) := by decide +kernel
theorem dX5_lays_0 : decode cX5_lays 0 = .ok (.iconst 4, 1) := by decide +kernel
theorem dX5_lays_1 : decode cX5_lays 1 = .ok (.iconst 4, 1) := by decide +kernel
theorem dX5_lays_2 : decode cX5_lays 2 = .ok (.aload_n 0, 1) := by decide +kernel
theorem dX5_lays_3 : decode cX5_lays 3 = .ok (.getfield 7, 3) := by decide +kernel
theorem dX5_lays_6 : decode cX5_lays 6 = .ok (.iconst 0, 1) := by decide +kernel
theorem dX5_lays_7 : decode cX5_lays 7 = .ok (.iaload, 1) := by decide +kernel
theorem dX5_lays_8 : decode cX5_lays 8 = .ok (.imul, 1) := by decide +kernel
theorem dX5_lays_9 : decode cX5_lays 9 = .ok (.iadd, 1) := by decide +kernel
theorem dX5_lays_10 : decode cX5_lays 10 = .ok (.istore 5, 2) := by decide +kernel
theorem dX5_lays_12 : decode cX5_lays 12 = .ok (.aload_n 0, 1) := by decide +kernel
theorem dX5_lays_13 : decode cX5_lays 13 = .ok (.getfield 7, 3) := by decide +kernel
theorem dX5_lays_16 : decode cX5_lays 16 = .ok (.iload 5, 2) := by decide +kernel
theorem dX5_lays_18 : decode cX5_lays 18 = .ok (.iload_n 1, 1) := by decide +kernel
theorem dX5_lays_19 : decode cX5_lays 19 = .ok (.iastore, 1) := by decide +kernel
theorem dX5_lays_20 : decode cX5_lays 20 = .ok (.aload_n 0, 1) := by decide +kernel
theorem dX5_lays_21 : decode cX5_lays 21 = .ok (.getfield 7, 3) := by decide +kernel
theorem dX5_lays_24 : decode cX5_lays 24 = .ok (.iload 5, 2) := by decide +kernel
theorem dX5_lays_26 : decode cX5_lays 26 = .ok (.iconst 1, 1) := by decide +kernel
theorem dX5_lays_27 : decode cX5_lays 27 = .ok (.iadd, 1) := by decide +kernel
theorem dX5_lays_28 : decode cX5_lays 28 = .ok (.iload_n 2, 1) := by decide +kernel
theorem dX5_lays_29 : decode cX5_lays 29 = .ok (.iastore, 1) := by decide +kernel
theorem dX5_lays_30 : decode cX5_lays 30 = .ok (.aload_n 0, 1) := by decide +kernel
theorem dX5_lays_31 : decode cX5_lays 31 = .ok (.getfield 7, 3) := by decide +kernel
theorem dX5_lays_34 : decode cX5_lays 34 = .ok (.iload 5, 2) := by decide +kernel
theorem dX5_lays_36 : decode cX5_lays 36 = .ok (.iconst 2, 1) := by decide +kernel
theorem dX5_lays_37 : decode cX5_lays 37 = .ok (.iadd, 1) := by decide +kernel
theorem dX5_lays_38 : decode cX5_lays 38 = .ok (.iload_n 3, 1) := by decide +kernel
theorem dX5_lays_39 : decode cX5_lays 39 = .ok (.iastore, 1) := by decide +kernel
theorem dX5_lays_40 : decode cX5_lays 40 = .ok (.aload_n 0, 1) := by decide +kernel
theorem dX5_lays_41 : decode cX5_lays 41 = .ok (.getfield 7, 3) := by decide +kernel
theorem dX5_lays_44 : decode cX5_lays 44 = .ok (.iload 5, 2) := by decide +kernel
theorem dX5_lays_46 : decode cX5_lays 46 = .ok (.iconst 3, 1) := by decide +kernel
theorem dX5_lays_47 : decode cX5_lays 47 = .ok (.iadd, 1) := by decide +kernel
theorem dX5_lays_48 : decode cX5_lays 48 = .ok (.iload 4, 2) := by decide +kernel
theorem dX5_lays_50 : decode cX5_lays 50 = .ok (.iastore, 1) := by decide +kernel
theorem dX5_lays_51 : decode cX5_lays 51 = .ok (.aload_n 0, 1) := by decide +kernel
theorem dX5_lays_52 : decode cX5_lays 52 = .ok (.getfield 7, 3) := by decide +kernel
theorem dX5_lays_55 : decode cX5_lays 55 = .ok (.iconst 0, 1) := by decide +kernel
theorem dX5_lays_56 : decode cX5_lays 56 = .ok (.dup2, 1) := by decide +kernel
theorem dX5_lays_57 : decode cX5_lays 57 = .ok (.iaload, 1) := by decide +kernel
theorem dX5_lays_58 : decode cX5_lays 58 = .ok (.iconst 1, 1) := by decide +kernel
theorem dX5_lays_59 : decode cX5_lays 59 = .ok (.iadd, 1) := by decide +kernel
theorem dX5_lays_60 : decode cX5_lays 60 = .ok (.iastore, 1) := by decide +kernel
theorem dX5_lays_61 : decode cX5_lays 61 = .ok (.return_, 1) := by decide +kernel
theorem dX5_joins_0 : decode cX5_joins 0 = .ok (.aload_n 0, 1) := by decide +kernel
theorem dX5_joins_1 : decode cX5_joins 1 = .ok (.getfield 7, 3) := by decide +kernel
theorem dX5_joins_4 : decode cX5_joins 4 = .ok (.bipush 52, 2) := by decide +kernel
theorem dX5_joins_6 : decode cX5_joins 6 = .ok (.iconst 2, 1) := by decide +kernel
theorem dX5_joins_7 : decode cX5_joins 7 = .ok (.aload_n 0, 1) := by decide +kernel
theorem dX5_joins_8 : decode cX5_joins 8 = .ok (.getfield 7, 3) := by decide +kernel
theorem dX5_joins_11 : decode cX5_joins 11 = .ok (.iconst 1, 1) := by decide +kernel
theorem dX5_joins_12 : decode cX5_joins 12 = .ok (.iaload, 1) := by decide +kernel
theorem dX5_joins_13 : decode cX5_joins 13 = .ok (.imul, 1) := by decide +kernel
theorem dX5_joins_14 : decode cX5_joins 14 = .ok (.iadd, 1) := by decide +kernel
theorem dX5_joins_15 : decode cX5_joins 15 = .ok (.iload_n 1, 1) := by decide +kernel
theorem dX5_joins_16 : decode cX5_joins 16 = .ok (.iastore, 1) := by decide +kernel
theorem dX5_joins_17 : decode cX5_joins 17 = .ok (.aload_n 0, 1) := by decide +kernel
theorem dX5_joins_18 : decode cX5_joins 18 = .ok (.getfield 7, 3) := by decide +kernel
theorem dX5_joins_21 : decode cX5_joins 21 = .ok (.bipush 52, 2) := by decide +kernel
theorem dX5_joins_23 : decode cX5_joins 23 = .ok (.iconst 2, 1) := by decide +kernel
theorem dX5_joins_24 : decode cX5_joins 24 = .ok (.aload_n 0, 1) := by decide +kernel
theorem dX5_joins_25 : decode cX5_joins 25 = .ok (.getfield 7, 3) := by decide +kernel
theorem dX5_joins_28 : decode cX5_joins 28 = .ok (.iconst 1, 1) := by decide +kernel
theorem dX5_joins_29 : decode cX5_joins 29 = .ok (.iaload, 1) := by decide +kernel
theorem dX5_joins_30 : decode cX5_joins 30 = .ok (.imul, 1) := by decide +kernel
theorem dX5_joins_31 : decode cX5_joins 31 = .ok (.iadd, 1) := by decide +kernel
theorem dX5_joins_32 : decode cX5_joins 32 = .ok (.iconst 1, 1) := by decide +kernel
theorem dX5_joins_33 : decode cX5_joins 33 = .ok (.iadd, 1) := by decide +kernel
theorem dX5_joins_34 : decode cX5_joins 34 = .ok (.iload_n 2, 1) := by decide +kernel
theorem dX5_joins_35 : decode cX5_joins 35 = .ok (.iastore, 1) := by decide +kernel
theorem dX5_joins_36 : decode cX5_joins 36 = .ok (.aload_n 0, 1) := by decide +kernel
theorem dX5_joins_37 : decode cX5_joins 37 = .ok (.getfield 7, 3) := by decide +kernel
theorem dX5_joins_40 : decode cX5_joins 40 = .ok (.iconst 1, 1) := by decide +kernel
theorem dX5_joins_41 : decode cX5_joins 41 = .ok (.dup2, 1) := by decide +kernel
theorem dX5_joins_42 : decode cX5_joins 42 = .ok (.iaload, 1) := by decide +kernel
theorem dX5_joins_43 : decode cX5_joins 43 = .ok (.iconst 1, 1) := by decide +kernel
theorem dX5_joins_44 : decode cX5_joins 44 = .ok (.iadd, 1) := by decide +kernel
theorem dX5_joins_45 : decode cX5_joins 45 = .ok (.iastore, 1) := by decide +kernel
theorem dX5_joins_46 : decode cX5_joins 46 = .ok (.return_, 1) := by decide +kernel
theorem dX5_parts_0 : decode cX5_parts 0 = .ok (.aload_n 0, 1) := by decide +kernel
theorem dX5_parts_1 : decode cX5_parts 1 = .ok (.getfield 7, 3) := by decide +kernel
theorem dX5_parts_4 : decode cX5_parts 4 = .ok (.iconst 1, 1) := by decide +kernel
theorem dX5_parts_5 : decode cX5_parts 5 = .ok (.dup2, 1) := by decide +kernel
theorem dX5_parts_6 : decode cX5_parts 6 = .ok (.iaload, 1) := by decide +kernel
theorem dX5_parts_7 : decode cX5_parts 7 = .ok (.iconst 1, 1) := by decide +kernel
theorem dX5_parts_8 : decode cX5_parts 8 = .ok (.isub, 1) := by decide +kernel
theorem dX5_parts_9 : decode cX5_parts 9 = .ok (.iastore, 1) := by decide +kernel
theorem dX5_parts_10 : decode cX5_parts 10 = .ok (.iconst 2, 1) := by decide +kernel
theorem dX5_parts_11 : decode cX5_parts 11 = .ok (.iload_n 1, 1) := by decide +kernel
theorem dX5_parts_12 : decode cX5_parts 12 = .ok (.imul, 1) := by decide +kernel
theorem dX5_parts_13 : decode cX5_parts 13 = .ok (.istore_n 2, 1) := by decide +kernel
theorem dX5_parts_14 : decode cX5_parts 14 = .ok (.iload_n 2, 1) := by decide +kernel
theorem dX5_parts_15 : decode cX5_parts 15 = .ok (.iconst 2, 1) := by decide +kernel
theorem dX5_parts_16 : decode cX5_parts 16 = .ok (.aload_n 0, 1) := by decide +kernel
theorem dX5_parts_17 : decode cX5_parts 17 = .ok (.getfield 7, 3) := by decide +kernel
theorem dX5_parts_20 : decode cX5_parts 20 = .ok (.iconst 1, 1) := by decide +kernel
theorem dX5_parts_21 : decode cX5_parts 21 = .ok (.iaload, 1) := by decide +kernel
theorem dX5_parts_22 : decode cX5_parts 22 = .ok (.imul, 1) := by decide +kernel
theorem dX5_parts_23 : decode cX5_parts 23 = .ok (.if_icmp .ge 29, 3) := by decide +kernel
theorem dX5_parts_26 : decode cX5_parts 26 = .ok (.aload_n 0, 1) := by decide +kernel
theorem dX5_parts_27 : decode cX5_parts 27 = .ok (.getfield 7, 3) := by decide +kernel
theorem dX5_parts_30 : decode cX5_parts 30 = .ok (.bipush 52, 2) := by decide +kernel
theorem dX5_parts_32 : decode cX5_parts 32 = .ok (.iload_n 2, 1) := by decide +kernel
theorem dX5_parts_33 : decode cX5_parts 33 = .ok (.iadd, 1) := by decide +kernel
theorem dX5_parts_34 : decode cX5_parts 34 = .ok (.aload_n 0, 1) := by decide +kernel
theorem dX5_parts_35 : decode cX5_parts 35 = .ok (.getfield 7, 3) := by decide +kernel
theorem dX5_parts_38 : decode cX5_parts 38 = .ok (.bipush 52, 2) := by decide +kernel
theorem dX5_parts_40 : decode cX5_parts 40 = .ok (.iload_n 2, 1) := by decide +kernel
theorem dX5_parts_41 : decode cX5_parts 41 = .ok (.iadd, 1) := by decide +kernel
theorem dX5_parts_42 : decode cX5_parts 42 = .ok (.iconst 2, 1) := by decide +kernel
theorem dX5_parts_43 : decode cX5_parts 43 = .ok (.iadd, 1) := by decide +kernel
theorem dX5_parts_44 : decode cX5_parts 44 = .ok (.iaload, 1) := by decide +kernel
theorem dX5_parts_45 : decode cX5_parts 45 = .ok (.iastore, 1) := by decide +kernel
theorem dX5_parts_46 : decode cX5_parts 46 = .ok (.iinc 2 1, 3) := by decide +kernel
theorem dX5_parts_49 : decode cX5_parts 49 = .ok (.goto (-35), 3) := by decide +kernel
theorem dX5_parts_52 : decode cX5_parts 52 = .ok (.return_, 1) := by decide +kernel
set_option maxRecDepth 20000 in
theorem ggX5_isSize_X5_in : GoodIn wsX5_isSize wsX5_in := goodIn_r _ [4] (by decide +kernel) (by decide +kernel)
set_option maxRecDepth 20000 in
theorem gX5_isSize_X5_in : GoodIn wsX5_isSize (va_wsS RX5 36 yX5_in wsX5_in) := goodIn_app (goodIn_of _ (by decide +kernel)) ggX5_isSize_X5_in
theorem dX5_isSize_0 : decode cX5_isSize 0 = .ok (.iload_n 0, 1) := by decide +kernel
theorem dX5_isSize_1 : decode cX5_isSize 1 = .ok (.iconst 1, 1) := by decide +kernel
theorem dX5_isSize_2 : decode cX5_isSize 2 = .ok (.sipush 5000, 3) := by decide +kernel
theorem dX5_isSize_5 : decode cX5_isSize 5 = .ok (.invokestatic 36, 3) := by decide +kernel
theorem dX5_isSize_8 : decode cX5_isSize 8 = .ok (.ifCond .eq 18, 3) := by decide +kernel
theorem dX5_isSize_11 : decode cX5_isSize 11 = .ok (.iload_n 1, 1) := by decide +kernel
theorem dX5_isSize_12 : decode cX5_isSize 12 = .ok (.iconst 1, 1) := by decide +kernel
theorem dX5_isSize_13 : decode cX5_isSize 13 = .ok (.sipush 5000, 3) := by decide +kernel
theorem dX5_isSize_16 : decode cX5_isSize 16 = .ok (.invokestatic 36, 3) := by decide +kernel
theorem dX5_isSize_19 : decode cX5_isSize 19 = .ok (.ifCond .eq 7, 3) := by decide +kernel
theorem dX5_isSize_22 : decode cX5_isSize 22 = .ok (.iconst 1, 1) := by decide +kernel
theorem dX5_isSize_23 : decode cX5_isSize 23 = .ok (.goto 4, 3) := by decide +kernel
theorem dX5_isSize_26 : decode cX5_isSize 26 = .ok (.iconst 0, 1) := by decide +kernel
theorem dX5_isSize_27 : decode cX5_isSize 27 = .ok (.ireturn, 1) := by decide +kernel
set_option maxRecDepth 20000 in
theorem ggX5_addSection_X5_isSize : GoodIn wsX5_addSection wsX5_isSize := goodIn_r _ [5, 6, 7, 4, 8] (by decide +kernel) (by decide +kernel)
set_option maxRecDepth 20000 in
theorem gX5_addSection_X5_isSize : GoodIn wsX5_addSection (va_wsS RX5 40 yX5_isSize wsX5_isSize) := goodIn_app (goodIn_of _ (by decide +kernel)) ggX5_addSection_X5_isSize
set_option maxRecDepth 20000 in
theorem ggX5_addSection_X5_saves : GoodIn wsX5_addSection wsX5_saves := goodIn_r _ [12, 13, 14, 15, 16, 4, 17, 1, 22, 23, 24, 25, 26, 27, 28, 29, 30, 31, 32, 33] (by decide +kernel) (by decide +kernel)
set_option maxRecDepth 20000 in
theorem gX5_addSection_X5_saves : GoodIn wsX5_addSection (wsV RX5 44 RX5 yX5_saves wsX5_saves) := goodIn_app (goodIn_of _ (by decide +kernel)) ggX5_addSection_X5_saves
set_option maxRecDepth 20000 in
theorem ggX5_addSection_X5_lays : GoodIn wsX5_addSection wsX5_lays := goodIn_r _ [21, 1, 22, 23, 24, 25, 26, 27, 28, 29, 30, 31, 32, 33] (by decide +kernel) (by decide +kernel)
set_option maxRecDepth 20000 in
theorem gX5_addSection_X5_lays : GoodIn wsX5_addSection (wsV RX5 47 RX5 yX5_lays wsX5_lays) := goodIn_app (goodIn_of _ (by decide +kernel)) ggX5_addSection_X5_lays
theorem dX5_addSection_0 : decode cX5_addSection 0 = .ok (.iload_n 1, 1) := by decide +kernel
theorem dX5_addSection_1 : decode cX5_addSection 1 = .ok (.iload_n 2, 1) := by decide +kernel
theorem dX5_addSection_2 : decode cX5_addSection 2 = .ok (.invokestatic 40, 3) := by decide +kernel
theorem dX5_addSection_5 : decode cX5_addSection 5 = .ok (.ifCond .ne 6, 3) := by decide +kernel
theorem dX5_addSection_8 : decode cX5_addSection 8 = .ok (.bipush (-3), 2) := by decide +kernel
theorem dX5_addSection_10 : decode cX5_addSection 10 = .ok (.ireturn, 1) := by decide +kernel
theorem dX5_addSection_11 : decode cX5_addSection 11 = .ok (.aload_n 0, 1) := by decide +kernel
theorem dX5_addSection_12 : decode cX5_addSection 12 = .ok (.getfield 7, 3) := by decide +kernel
theorem dX5_addSection_15 : decode cX5_addSection 15 = .ok (.iconst 0, 1) := by decide +kernel
theorem dX5_addSection_16 : decode cX5_addSection 16 = .ok (.iaload, 1) := by decide +kernel
theorem dX5_addSection_17 : decode cX5_addSection 17 = .ok (.bipush 12, 2) := by decide +kernel
theorem dX5_addSection_19 : decode cX5_addSection 19 = .ok (.if_icmp .ne 6, 3) := by decide +kernel
theorem dX5_addSection_22 : decode cX5_addSection 22 = .ok (.bipush (-5), 2) := by decide +kernel
theorem dX5_addSection_24 : decode cX5_addSection 24 = .ok (.ireturn, 1) := by decide +kernel
theorem dX5_addSection_25 : decode cX5_addSection 25 = .ok (.aload_n 0, 1) := by decide +kernel
theorem dX5_addSection_26 : decode cX5_addSection 26 = .ok (.invokevirtual 44, 3) := by decide +kernel
theorem dX5_addSection_29 : decode cX5_addSection 29 = .ok (.aload_n 0, 1) := by decide +kernel
theorem dX5_addSection_30 : decode cX5_addSection 30 = .ok (.iload_n 1, 1) := by decide +kernel
theorem dX5_addSection_31 : decode cX5_addSection 31 = .ok (.iload_n 2, 1) := by decide +kernel
theorem dX5_addSection_32 : decode cX5_addSection 32 = .ok (.iconst 0, 1) := by decide +kernel
theorem dX5_addSection_33 : decode cX5_addSection 33 = .ok (.iload_n 3, 1) := by decide +kernel
theorem dX5_addSection_34 : decode cX5_addSection 34 = .ok (.ifCond .eq 7, 3) := by decide +kernel
theorem dX5_addSection_37 : decode cX5_addSection 37 = .ok (.iconst 1, 1) := by decide +kernel
theorem dX5_addSection_38 : decode cX5_addSection 38 = .ok (.goto 4, 3) := by decide +kernel
theorem dX5_addSection_41 : decode cX5_addSection 41 = .ok (.iconst 0, 1) := by decide +kernel
theorem dX5_addSection_42 : decode cX5_addSection 42 = .ok (.invokevirtual 47, 3) := by decide +kernel
theorem dX5_addSection_45 : decode cX5_addSection 45 = .ok (.aload_n 0, 1) := by decide +kernel
theorem dX5_addSection_46 : decode cX5_addSection 46 = .ok (.getfield 7, 3) := by decide +kernel
theorem dX5_addSection_49 : decode cX5_addSection 49 = .ok (.iconst 0, 1) := by decide +kernel
theorem dX5_addSection_50 : decode cX5_addSection 50 = .ok (.iaload, 1) := by decide +kernel
theorem dX5_addSection_51 : decode cX5_addSection 51 = .ok (.iconst 1, 1) := by decide +kernel
theorem dX5_addSection_52 : decode cX5_addSection 52 = .ok (.isub, 1) := by decide +kernel
theorem dX5_addSection_53 : decode cX5_addSection 53 = .ok (.ireturn, 1) := by decide +kernel
set_option maxRecDepth 20000 in
theorem ggX5_resize_X5_isSection : GoodIn wsX5_resize wsX5_isSection := goodIn_r _ [6, 1, 7, 8, 5, 9, 26, 27, 28, 29, 30, 31, 32, 33, 34, 35, 36, 37] (by decide +kernel) (by decide +kernel)
set_option maxRecDepth 20000 in
theorem gX5_resize_X5_isSection : GoodIn wsX5_resize (wsV RX5 51 RX5 yX5_isSection wsX5_isSection) := goodIn_app (goodIn_of _ (by decide +kernel)) ggX5_resize_X5_isSection
set_option maxRecDepth 20000 in
theorem ggX5_resize_X5_isSize : GoodIn wsX5_resize wsX5_isSize := goodIn_r _ [12, 7, 8, 5, 9] (by decide +kernel) (by decide +kernel)
set_option maxRecDepth 20000 in
theorem gX5_resize_X5_isSize : GoodIn wsX5_resize (va_wsS RX5 40 yX5_isSize wsX5_isSize) := goodIn_app (goodIn_of _ (by decide +kernel)) ggX5_resize_X5_isSize
set_option maxRecDepth 20000 in
theorem ggX5_resize_X5_saves : GoodIn wsX5_resize wsX5_saves := goodIn_r _ [16, 17, 18, 19, 20, 5, 21, 1, 26, 27, 28, 29, 30, 31, 32, 33, 34, 35, 36, 37] (by decide +kernel) (by decide +kernel)
set_option maxRecDepth 20000 in
theorem gX5_resize_X5_saves : GoodIn wsX5_resize (wsV RX5 44 RX5 yX5_saves wsX5_saves) := goodIn_app (goodIn_of _ (by decide +kernel)) ggX5_resize_X5_saves
set_option maxRecDepth 20000 in
theorem ggX5_resize_X5_of : GoodIn wsX5_resize wsX5_of := goodIn_r _ [25, 1, 26, 27, 28, 29, 30, 31, 32, 33, 34, 35, 36, 37] (by decide +kernel) (by decide +kernel)
set_option maxRecDepth 20000 in
theorem gX5_resize_X5_of : GoodIn wsX5_resize (wsV RX5 55 RX5 yX5_of wsX5_of) := goodIn_app (goodIn_of _ (by decide +kernel)) ggX5_resize_X5_of
theorem dX5_resize_0 : decode cX5_resize 0 = .ok (.aload_n 0, 1) := by decide +kernel
theorem dX5_resize_1 : decode cX5_resize 1 = .ok (.iload_n 1, 1) := by decide +kernel
theorem dX5_resize_2 : decode cX5_resize 2 = .ok (.invokevirtual 51, 3) := by decide +kernel
theorem dX5_resize_5 : decode cX5_resize 5 = .ok (.ifCond .ne 6, 3) := by decide +kernel
theorem dX5_resize_8 : decode cX5_resize 8 = .ok (.bipush (-2), 2) := by decide +kernel
theorem dX5_resize_10 : decode cX5_resize 10 = .ok (.ireturn, 1) := by decide +kernel
theorem dX5_resize_11 : decode cX5_resize 11 = .ok (.iload_n 2, 1) := by decide +kernel
theorem dX5_resize_12 : decode cX5_resize 12 = .ok (.iload_n 3, 1) := by decide +kernel
theorem dX5_resize_13 : decode cX5_resize 13 = .ok (.invokestatic 40, 3) := by decide +kernel
theorem dX5_resize_16 : decode cX5_resize 16 = .ok (.ifCond .ne 6, 3) := by decide +kernel
theorem dX5_resize_19 : decode cX5_resize 19 = .ok (.bipush (-3), 2) := by decide +kernel
theorem dX5_resize_21 : decode cX5_resize 21 = .ok (.ireturn, 1) := by decide +kernel
theorem dX5_resize_22 : decode cX5_resize 22 = .ok (.aload_n 0, 1) := by decide +kernel
theorem dX5_resize_23 : decode cX5_resize 23 = .ok (.invokevirtual 44, 3) := by decide +kernel
theorem dX5_resize_26 : decode cX5_resize 26 = .ok (.aload_n 0, 1) := by decide +kernel
theorem dX5_resize_27 : decode cX5_resize 27 = .ok (.iload_n 1, 1) := by decide +kernel
theorem dX5_resize_28 : decode cX5_resize 28 = .ok (.iconst 0, 1) := by decide +kernel
theorem dX5_resize_29 : decode cX5_resize 29 = .ok (.invokevirtual 55, 3) := by decide +kernel
theorem dX5_resize_32 : decode cX5_resize 32 = .ok (.istore 4, 2) := by decide +kernel
theorem dX5_resize_34 : decode cX5_resize 34 = .ok (.aload_n 0, 1) := by decide +kernel
theorem dX5_resize_35 : decode cX5_resize 35 = .ok (.getfield 7, 3) := by decide +kernel
theorem dX5_resize_38 : decode cX5_resize 38 = .ok (.iconst 4, 1) := by decide +kernel
theorem dX5_resize_39 : decode cX5_resize 39 = .ok (.iconst 4, 1) := by decide +kernel
theorem dX5_resize_40 : decode cX5_resize 40 = .ok (.iload_n 1, 1) := by decide +kernel
theorem dX5_resize_41 : decode cX5_resize 41 = .ok (.imul, 1) := by decide +kernel
theorem dX5_resize_42 : decode cX5_resize 42 = .ok (.iadd, 1) := by decide +kernel
theorem dX5_resize_43 : decode cX5_resize 43 = .ok (.iload_n 2, 1) := by decide +kernel
theorem dX5_resize_44 : decode cX5_resize 44 = .ok (.iastore, 1) := by decide +kernel
theorem dX5_resize_45 : decode cX5_resize 45 = .ok (.aload_n 0, 1) := by decide +kernel
theorem dX5_resize_46 : decode cX5_resize 46 = .ok (.getfield 7, 3) := by decide +kernel
theorem dX5_resize_49 : decode cX5_resize 49 = .ok (.iconst 4, 1) := by decide +kernel
theorem dX5_resize_50 : decode cX5_resize 50 = .ok (.iconst 4, 1) := by decide +kernel
theorem dX5_resize_51 : decode cX5_resize 51 = .ok (.iload_n 1, 1) := by decide +kernel
theorem dX5_resize_52 : decode cX5_resize 52 = .ok (.imul, 1) := by decide +kernel
theorem dX5_resize_53 : decode cX5_resize 53 = .ok (.iadd, 1) := by decide +kernel
theorem dX5_resize_54 : decode cX5_resize 54 = .ok (.iconst 1, 1) := by decide +kernel
theorem dX5_resize_55 : decode cX5_resize 55 = .ok (.iadd, 1) := by decide +kernel
theorem dX5_resize_56 : decode cX5_resize 56 = .ok (.iload_n 3, 1) := by decide +kernel
theorem dX5_resize_57 : decode cX5_resize 57 = .ok (.iastore, 1) := by decide +kernel
theorem dX5_resize_58 : decode cX5_resize 58 = .ok (.iload 4, 2) := by decide +kernel
theorem dX5_resize_60 : decode cX5_resize 60 = .ok (.ireturn, 1) := by decide +kernel
set_option maxRecDepth 20000 in
theorem ggX5_setChill_X5_isSection : GoodIn wsX5_setChill wsX5_isSection := goodIn_r _ [6, 1, 7, 8, 5, 9, 23, 24, 25, 26, 27, 28, 29, 30, 31, 32, 33, 34] (by decide +kernel) (by decide +kernel)
set_option maxRecDepth 20000 in
theorem gX5_setChill_X5_isSection : GoodIn wsX5_setChill (wsV RX5 51 RX5 yX5_isSection wsX5_isSection) := goodIn_app (goodIn_of _ (by decide +kernel)) ggX5_setChill_X5_isSection
set_option maxRecDepth 20000 in
theorem ggX5_setChill_X5_in : GoodIn wsX5_setChill wsX5_in := goodIn_r _ [9] (by decide +kernel) (by decide +kernel)
set_option maxRecDepth 20000 in
theorem gX5_setChill_X5_in : GoodIn wsX5_setChill (va_wsS RX5 36 yX5_in wsX5_in) := goodIn_app (goodIn_of _ (by decide +kernel)) ggX5_setChill_X5_in
set_option maxRecDepth 20000 in
theorem ggX5_setChill_X5_saves : GoodIn wsX5_setChill wsX5_saves := goodIn_r _ [13, 14, 15, 16, 17, 5, 18, 1, 23, 24, 25, 26, 27, 28, 29, 30, 31, 32, 33, 34] (by decide +kernel) (by decide +kernel)
set_option maxRecDepth 20000 in
theorem gX5_setChill_X5_saves : GoodIn wsX5_setChill (wsV RX5 44 RX5 yX5_saves wsX5_saves) := goodIn_app (goodIn_of _ (by decide +kernel)) ggX5_setChill_X5_saves
set_option maxRecDepth 20000 in
theorem ggX5_setChill_X5_of : GoodIn wsX5_setChill wsX5_of := goodIn_r _ [22, 1, 23, 24, 25, 26, 27, 28, 29, 30, 31, 32, 33, 34] (by decide +kernel) (by decide +kernel)
set_option maxRecDepth 20000 in
theorem gX5_setChill_X5_of : GoodIn wsX5_setChill (wsV RX5 55 RX5 yX5_of wsX5_of) := goodIn_app (goodIn_of _ (by decide +kernel)) ggX5_setChill_X5_of
theorem dX5_setChill_0 : decode cX5_setChill 0 = .ok (.aload_n 0, 1) := by decide +kernel
theorem dX5_setChill_1 : decode cX5_setChill 1 = .ok (.iload_n 1, 1) := by decide +kernel
theorem dX5_setChill_2 : decode cX5_setChill 2 = .ok (.invokevirtual 51, 3) := by decide +kernel
theorem dX5_setChill_5 : decode cX5_setChill 5 = .ok (.ifCond .ne 6, 3) := by decide +kernel
theorem dX5_setChill_8 : decode cX5_setChill 8 = .ok (.bipush (-2), 2) := by decide +kernel
theorem dX5_setChill_10 : decode cX5_setChill 10 = .ok (.ireturn, 1) := by decide +kernel
theorem dX5_setChill_11 : decode cX5_setChill 11 = .ok (.iload_n 2, 1) := by decide +kernel
theorem dX5_setChill_12 : decode cX5_setChill 12 = .ok (.iconst 0, 1) := by decide +kernel
theorem dX5_setChill_13 : decode cX5_setChill 13 = .ok (.sipush 500, 3) := by decide +kernel
theorem dX5_setChill_16 : decode cX5_setChill 16 = .ok (.invokestatic 36, 3) := by decide +kernel
theorem dX5_setChill_19 : decode cX5_setChill 19 = .ok (.ifCond .ne 6, 3) := by decide +kernel
theorem dX5_setChill_22 : decode cX5_setChill 22 = .ok (.bipush (-3), 2) := by decide +kernel
theorem dX5_setChill_24 : decode cX5_setChill 24 = .ok (.ireturn, 1) := by decide +kernel
theorem dX5_setChill_25 : decode cX5_setChill 25 = .ok (.aload_n 0, 1) := by decide +kernel
theorem dX5_setChill_26 : decode cX5_setChill 26 = .ok (.invokevirtual 44, 3) := by decide +kernel
theorem dX5_setChill_29 : decode cX5_setChill 29 = .ok (.aload_n 0, 1) := by decide +kernel
theorem dX5_setChill_30 : decode cX5_setChill 30 = .ok (.iload_n 1, 1) := by decide +kernel
theorem dX5_setChill_31 : decode cX5_setChill 31 = .ok (.iconst 2, 1) := by decide +kernel
theorem dX5_setChill_32 : decode cX5_setChill 32 = .ok (.invokevirtual 55, 3) := by decide +kernel
theorem dX5_setChill_35 : decode cX5_setChill 35 = .ok (.istore_n 3, 1) := by decide +kernel
theorem dX5_setChill_36 : decode cX5_setChill 36 = .ok (.aload_n 0, 1) := by decide +kernel
theorem dX5_setChill_37 : decode cX5_setChill 37 = .ok (.getfield 7, 3) := by decide +kernel
theorem dX5_setChill_40 : decode cX5_setChill 40 = .ok (.iconst 4, 1) := by decide +kernel
theorem dX5_setChill_41 : decode cX5_setChill 41 = .ok (.iconst 4, 1) := by decide +kernel
theorem dX5_setChill_42 : decode cX5_setChill 42 = .ok (.iload_n 1, 1) := by decide +kernel
theorem dX5_setChill_43 : decode cX5_setChill 43 = .ok (.imul, 1) := by decide +kernel
theorem dX5_setChill_44 : decode cX5_setChill 44 = .ok (.iadd, 1) := by decide +kernel
theorem dX5_setChill_45 : decode cX5_setChill 45 = .ok (.iconst 2, 1) := by decide +kernel
theorem dX5_setChill_46 : decode cX5_setChill 46 = .ok (.iadd, 1) := by decide +kernel
theorem dX5_setChill_47 : decode cX5_setChill 47 = .ok (.iload_n 2, 1) := by decide +kernel
theorem dX5_setChill_48 : decode cX5_setChill 48 = .ok (.iastore, 1) := by decide +kernel
theorem dX5_setChill_49 : decode cX5_setChill 49 = .ok (.iload_n 3, 1) := by decide +kernel
theorem dX5_setChill_50 : decode cX5_setChill 50 = .ok (.ireturn, 1) := by decide +kernel
set_option maxRecDepth 20000 in
theorem ggX5_removeSection_X5_isSection : GoodIn wsX5_removeSection wsX5_isSection := goodIn_r _ [6, 1, 7, 8, 5, 9, 23, 24, 25, 26, 27, 28, 29, 30, 31, 32, 33, 34] (by decide +kernel) (by decide +kernel)
set_option maxRecDepth 20000 in
theorem gX5_removeSection_X5_isSection : GoodIn wsX5_removeSection (wsV RX5 51 RX5 yX5_isSection wsX5_isSection) := goodIn_app (goodIn_of _ (by decide +kernel)) ggX5_removeSection_X5_isSection
set_option maxRecDepth 20000 in
theorem ggX5_removeSection_X5_saves : GoodIn wsX5_removeSection wsX5_saves := goodIn_r _ [13, 14, 15, 16, 17, 5, 18, 1, 23, 24, 25, 26, 27, 28, 29, 30, 31, 32, 33, 34] (by decide +kernel) (by decide +kernel)
set_option maxRecDepth 20000 in
theorem gX5_removeSection_X5_saves : GoodIn wsX5_removeSection (wsV RX5 44 RX5 yX5_saves wsX5_saves) := goodIn_app (goodIn_of _ (by decide +kernel)) ggX5_removeSection_X5_saves
set_option maxRecDepth 20000 in
theorem ggX5_removeSection_X5_parts : GoodIn wsX5_removeSection wsX5_parts := goodIn_r _ [22, 1, 23, 24, 25, 26, 27, 28, 29, 30, 31, 32, 33, 34] (by decide +kernel) (by decide +kernel)
set_option maxRecDepth 20000 in
theorem gX5_removeSection_X5_parts : GoodIn wsX5_removeSection (wsV RX5 59 RX5 yX5_parts wsX5_parts) := goodIn_app (goodIn_of _ (by decide +kernel)) ggX5_removeSection_X5_parts
theorem dX5_removeSection_0 : decode cX5_removeSection 0 = .ok (.aload_n 0, 1) := by decide +kernel
theorem dX5_removeSection_1 : decode cX5_removeSection 1 = .ok (.iload_n 1, 1) := by decide +kernel
theorem dX5_removeSection_2 : decode cX5_removeSection 2 = .ok (.invokevirtual 51, 3) := by decide +kernel
theorem dX5_removeSection_5 : decode cX5_removeSection 5 = .ok (.ifCond .ne 6, 3) := by decide +kernel
theorem dX5_removeSection_8 : decode cX5_removeSection 8 = .ok (.bipush (-2), 2) := by decide +kernel
theorem dX5_removeSection_10 : decode cX5_removeSection 10 = .ok (.ireturn, 1) := by decide +kernel
theorem dX5_removeSection_11 : decode cX5_removeSection 11 = .ok (.aload_n 0, 1) := by decide +kernel
theorem dX5_removeSection_12 : decode cX5_removeSection 12 = .ok (.invokevirtual 44, 3) := by decide +kernel
theorem dX5_removeSection_15 : decode cX5_removeSection 15 = .ok (.aload_n 0, 1) := by decide +kernel
theorem dX5_removeSection_16 : decode cX5_removeSection 16 = .ok (.getfield 7, 3) := by decide +kernel
theorem dX5_removeSection_19 : decode cX5_removeSection 19 = .ok (.iconst 1, 1) := by decide +kernel
theorem dX5_removeSection_20 : decode cX5_removeSection 20 = .ok (.iaload, 1) := by decide +kernel
theorem dX5_removeSection_21 : decode cX5_removeSection 21 = .ok (.iconst 1, 1) := by decide +kernel
theorem dX5_removeSection_22 : decode cX5_removeSection 22 = .ok (.isub, 1) := by decide +kernel
theorem dX5_removeSection_23 : decode cX5_removeSection 23 = .ok (.istore_n 2, 1) := by decide +kernel
theorem dX5_removeSection_24 : decode cX5_removeSection 24 = .ok (.iload_n 2, 1) := by decide +kernel
theorem dX5_removeSection_25 : decode cX5_removeSection 25 = .ok (.ifCond .lt 46, 3) := by decide +kernel
theorem dX5_removeSection_28 : decode cX5_removeSection 28 = .ok (.aload_n 0, 1) := by decide +kernel
theorem dX5_removeSection_29 : decode cX5_removeSection 29 = .ok (.getfield 7, 3) := by decide +kernel
theorem dX5_removeSection_32 : decode cX5_removeSection 32 = .ok (.bipush 52, 2) := by decide +kernel
theorem dX5_removeSection_34 : decode cX5_removeSection 34 = .ok (.iconst 2, 1) := by decide +kernel
theorem dX5_removeSection_35 : decode cX5_removeSection 35 = .ok (.iload_n 2, 1) := by decide +kernel
theorem dX5_removeSection_36 : decode cX5_removeSection 36 = .ok (.imul, 1) := by decide +kernel
theorem dX5_removeSection_37 : decode cX5_removeSection 37 = .ok (.iadd, 1) := by decide +kernel
theorem dX5_removeSection_38 : decode cX5_removeSection 38 = .ok (.iaload, 1) := by decide +kernel
theorem dX5_removeSection_39 : decode cX5_removeSection 39 = .ok (.iload_n 1, 1) := by decide +kernel
theorem dX5_removeSection_40 : decode cX5_removeSection 40 = .ok (.if_icmp .eq 20, 3) := by decide +kernel
theorem dX5_removeSection_43 : decode cX5_removeSection 43 = .ok (.aload_n 0, 1) := by decide +kernel
theorem dX5_removeSection_44 : decode cX5_removeSection 44 = .ok (.getfield 7, 3) := by decide +kernel
theorem dX5_removeSection_47 : decode cX5_removeSection 47 = .ok (.bipush 52, 2) := by decide +kernel
theorem dX5_removeSection_49 : decode cX5_removeSection 49 = .ok (.iconst 2, 1) := by decide +kernel
theorem dX5_removeSection_50 : decode cX5_removeSection 50 = .ok (.iload_n 2, 1) := by decide +kernel
theorem dX5_removeSection_51 : decode cX5_removeSection 51 = .ok (.imul, 1) := by decide +kernel
theorem dX5_removeSection_52 : decode cX5_removeSection 52 = .ok (.iadd, 1) := by decide +kernel
theorem dX5_removeSection_53 : decode cX5_removeSection 53 = .ok (.iconst 1, 1) := by decide +kernel
theorem dX5_removeSection_54 : decode cX5_removeSection 54 = .ok (.iadd, 1) := by decide +kernel
theorem dX5_removeSection_55 : decode cX5_removeSection 55 = .ok (.iaload, 1) := by decide +kernel
theorem dX5_removeSection_56 : decode cX5_removeSection 56 = .ok (.iload_n 1, 1) := by decide +kernel
theorem dX5_removeSection_57 : decode cX5_removeSection 57 = .ok (.if_icmp .ne 8, 3) := by decide +kernel
theorem dX5_removeSection_60 : decode cX5_removeSection 60 = .ok (.aload_n 0, 1) := by decide +kernel
theorem dX5_removeSection_61 : decode cX5_removeSection 61 = .ok (.iload_n 2, 1) := by decide +kernel
theorem dX5_removeSection_62 : decode cX5_removeSection 62 = .ok (.invokevirtual 59, 3) := by decide +kernel
theorem dX5_removeSection_65 : decode cX5_removeSection 65 = .ok (.iinc 2 (-1), 3) := by decide +kernel
theorem dX5_removeSection_68 : decode cX5_removeSection 68 = .ok (.goto (-44), 3) := by decide +kernel
theorem dX5_removeSection_71 : decode cX5_removeSection 71 = .ok (.iconst 0, 1) := by decide +kernel
theorem dX5_removeSection_72 : decode cX5_removeSection 72 = .ok (.istore_n 2, 1) := by decide +kernel
theorem dX5_removeSection_73 : decode cX5_removeSection 73 = .ok (.iload_n 2, 1) := by decide +kernel
theorem dX5_removeSection_74 : decode cX5_removeSection 74 = .ok (.iconst 2, 1) := by decide +kernel
theorem dX5_removeSection_75 : decode cX5_removeSection 75 = .ok (.aload_n 0, 1) := by decide +kernel
theorem dX5_removeSection_76 : decode cX5_removeSection 76 = .ok (.getfield 7, 3) := by decide +kernel
theorem dX5_removeSection_79 : decode cX5_removeSection 79 = .ok (.iconst 1, 1) := by decide +kernel
theorem dX5_removeSection_80 : decode cX5_removeSection 80 = .ok (.iaload, 1) := by decide +kernel
theorem dX5_removeSection_81 : decode cX5_removeSection 81 = .ok (.imul, 1) := by decide +kernel
theorem dX5_removeSection_82 : decode cX5_removeSection 82 = .ok (.if_icmp .ge 39, 3) := by decide +kernel
theorem dX5_removeSection_85 : decode cX5_removeSection 85 = .ok (.aload_n 0, 1) := by decide +kernel
theorem dX5_removeSection_86 : decode cX5_removeSection 86 = .ok (.getfield 7, 3) := by decide +kernel
theorem dX5_removeSection_89 : decode cX5_removeSection 89 = .ok (.bipush 52, 2) := by decide +kernel
theorem dX5_removeSection_91 : decode cX5_removeSection 91 = .ok (.iload_n 2, 1) := by decide +kernel
theorem dX5_removeSection_92 : decode cX5_removeSection 92 = .ok (.iadd, 1) := by decide +kernel
theorem dX5_removeSection_93 : decode cX5_removeSection 93 = .ok (.dup2, 1) := by decide +kernel
theorem dX5_removeSection_94 : decode cX5_removeSection 94 = .ok (.iaload, 1) := by decide +kernel
theorem dX5_removeSection_95 : decode cX5_removeSection 95 = .ok (.aload_n 0, 1) := by decide +kernel
theorem dX5_removeSection_96 : decode cX5_removeSection 96 = .ok (.getfield 7, 3) := by decide +kernel
theorem dX5_removeSection_99 : decode cX5_removeSection 99 = .ok (.bipush 52, 2) := by decide +kernel
theorem dX5_removeSection_101 : decode cX5_removeSection 101 = .ok (.iload_n 2, 1) := by decide +kernel
theorem dX5_removeSection_102 : decode cX5_removeSection 102 = .ok (.iadd, 1) := by decide +kernel
theorem dX5_removeSection_103 : decode cX5_removeSection 103 = .ok (.iaload, 1) := by decide +kernel
theorem dX5_removeSection_104 : decode cX5_removeSection 104 = .ok (.iload_n 1, 1) := by decide +kernel
theorem dX5_removeSection_105 : decode cX5_removeSection 105 = .ok (.if_icmp .le 7, 3) := by decide +kernel
theorem dX5_removeSection_108 : decode cX5_removeSection 108 = .ok (.iconst 1, 1) := by decide +kernel
theorem dX5_removeSection_109 : decode cX5_removeSection 109 = .ok (.goto 4, 3) := by decide +kernel
theorem dX5_removeSection_112 : decode cX5_removeSection 112 = .ok (.iconst 0, 1) := by decide +kernel
theorem dX5_removeSection_113 : decode cX5_removeSection 113 = .ok (.isub, 1) := by decide +kernel
theorem dX5_removeSection_114 : decode cX5_removeSection 114 = .ok (.iastore, 1) := by decide +kernel
theorem dX5_removeSection_115 : decode cX5_removeSection 115 = .ok (.iinc 2 1, 3) := by decide +kernel
theorem dX5_removeSection_118 : decode cX5_removeSection 118 = .ok (.goto (-45), 3) := by decide +kernel
theorem dX5_removeSection_121 : decode cX5_removeSection 121 = .ok (.aload_n 0, 1) := by decide +kernel
theorem dX5_removeSection_122 : decode cX5_removeSection 122 = .ok (.getfield 7, 3) := by decide +kernel
theorem dX5_removeSection_125 : decode cX5_removeSection 125 = .ok (.iconst 0, 1) := by decide +kernel
theorem dX5_removeSection_126 : decode cX5_removeSection 126 = .ok (.dup2, 1) := by decide +kernel
theorem dX5_removeSection_127 : decode cX5_removeSection 127 = .ok (.iaload, 1) := by decide +kernel
theorem dX5_removeSection_128 : decode cX5_removeSection 128 = .ok (.iconst 1, 1) := by decide +kernel
theorem dX5_removeSection_129 : decode cX5_removeSection 129 = .ok (.isub, 1) := by decide +kernel
theorem dX5_removeSection_130 : decode cX5_removeSection 130 = .ok (.iastore, 1) := by decide +kernel
theorem dX5_removeSection_131 : decode cX5_removeSection 131 = .ok (.iconst 4, 1) := by decide +kernel
theorem dX5_removeSection_132 : decode cX5_removeSection 132 = .ok (.iload_n 1, 1) := by decide +kernel
theorem dX5_removeSection_133 : decode cX5_removeSection 133 = .ok (.imul, 1) := by decide +kernel
theorem dX5_removeSection_134 : decode cX5_removeSection 134 = .ok (.istore_n 2, 1) := by decide +kernel
theorem dX5_removeSection_135 : decode cX5_removeSection 135 = .ok (.iload_n 2, 1) := by decide +kernel
theorem dX5_removeSection_136 : decode cX5_removeSection 136 = .ok (.iconst 4, 1) := by decide +kernel
theorem dX5_removeSection_137 : decode cX5_removeSection 137 = .ok (.aload_n 0, 1) := by decide +kernel
theorem dX5_removeSection_138 : decode cX5_removeSection 138 = .ok (.getfield 7, 3) := by decide +kernel
theorem dX5_removeSection_141 : decode cX5_removeSection 141 = .ok (.iconst 0, 1) := by decide +kernel
theorem dX5_removeSection_142 : decode cX5_removeSection 142 = .ok (.iaload, 1) := by decide +kernel
theorem dX5_removeSection_143 : decode cX5_removeSection 143 = .ok (.imul, 1) := by decide +kernel
theorem dX5_removeSection_144 : decode cX5_removeSection 144 = .ok (.if_icmp .ge 27, 3) := by decide +kernel
theorem dX5_removeSection_147 : decode cX5_removeSection 147 = .ok (.aload_n 0, 1) := by decide +kernel
theorem dX5_removeSection_148 : decode cX5_removeSection 148 = .ok (.getfield 7, 3) := by decide +kernel
theorem dX5_removeSection_151 : decode cX5_removeSection 151 = .ok (.iconst 4, 1) := by decide +kernel
theorem dX5_removeSection_152 : decode cX5_removeSection 152 = .ok (.iload_n 2, 1) := by decide +kernel
theorem dX5_removeSection_153 : decode cX5_removeSection 153 = .ok (.iadd, 1) := by decide +kernel
theorem dX5_removeSection_154 : decode cX5_removeSection 154 = .ok (.aload_n 0, 1) := by decide +kernel
theorem dX5_removeSection_155 : decode cX5_removeSection 155 = .ok (.getfield 7, 3) := by decide +kernel
theorem dX5_removeSection_158 : decode cX5_removeSection 158 = .ok (.iconst 4, 1) := by decide +kernel
theorem dX5_removeSection_159 : decode cX5_removeSection 159 = .ok (.iload_n 2, 1) := by decide +kernel
theorem dX5_removeSection_160 : decode cX5_removeSection 160 = .ok (.iadd, 1) := by decide +kernel
theorem dX5_removeSection_161 : decode cX5_removeSection 161 = .ok (.iconst 4, 1) := by decide +kernel
theorem dX5_removeSection_162 : decode cX5_removeSection 162 = .ok (.iadd, 1) := by decide +kernel
theorem dX5_removeSection_163 : decode cX5_removeSection 163 = .ok (.iaload, 1) := by decide +kernel
theorem dX5_removeSection_164 : decode cX5_removeSection 164 = .ok (.iastore, 1) := by decide +kernel
theorem dX5_removeSection_165 : decode cX5_removeSection 165 = .ok (.iinc 2 1, 3) := by decide +kernel
theorem dX5_removeSection_168 : decode cX5_removeSection 168 = .ok (.goto (-33), 3) := by decide +kernel
theorem dX5_removeSection_171 : decode cX5_removeSection 171 = .ok (.aload_n 0, 1) := by decide +kernel
theorem dX5_removeSection_172 : decode cX5_removeSection 172 = .ok (.getfield 7, 3) := by decide +kernel
theorem dX5_removeSection_175 : decode cX5_removeSection 175 = .ok (.iconst 0, 1) := by decide +kernel
theorem dX5_removeSection_176 : decode cX5_removeSection 176 = .ok (.iaload, 1) := by decide +kernel
theorem dX5_removeSection_177 : decode cX5_removeSection 177 = .ok (.ireturn, 1) := by decide +kernel
set_option maxRecDepth 20000 in
theorem ggX5_join_X5_isSection : GoodIn wsX5_join wsX5_isSection := goodIn_r _ [6, 1, 7, 8, 5, 9, 27, 28, 29, 30, 31, 32, 33, 34, 35, 36, 37, 38] (by decide +kernel) (by decide +kernel)
set_option maxRecDepth 20000 in
theorem gX5_join_X5_isSection : GoodIn wsX5_join (wsV RX5 51 RX5 yX5_isSection wsX5_isSection) := goodIn_app (goodIn_of _ (by decide +kernel)) ggX5_join_X5_isSection
set_option maxRecDepth 20000 in
theorem ggX5_join_X5_areNeighbours : GoodIn wsX5_join wsX5_areNeighbours := goodIn_r _ [13, 1, 27, 28, 29, 30, 31, 32, 33, 34, 35, 36, 37, 38] (by decide +kernel) (by decide +kernel)
set_option maxRecDepth 20000 in
theorem gX5_join_X5_areNeighbours : GoodIn wsX5_join (wsV RX5 63 RX5 yX5_areNeighbours wsX5_areNeighbours) := goodIn_app (goodIn_of _ (by decide +kernel)) ggX5_join_X5_areNeighbours
set_option maxRecDepth 20000 in
theorem ggX5_join_X5_saves : GoodIn wsX5_join wsX5_saves := goodIn_r _ [17, 18, 19, 20, 21, 5, 22, 1, 27, 28, 29, 30, 31, 32, 33, 34, 35, 36, 37, 38] (by decide +kernel) (by decide +kernel)
set_option maxRecDepth 20000 in
theorem gX5_join_X5_saves : GoodIn wsX5_join (wsV RX5 44 RX5 yX5_saves wsX5_saves) := goodIn_app (goodIn_of _ (by decide +kernel)) ggX5_join_X5_saves
set_option maxRecDepth 20000 in
theorem ggX5_join_X5_joins : GoodIn wsX5_join wsX5_joins := goodIn_r _ [26, 1, 27, 28, 29, 30, 31, 32, 33, 34, 35, 36, 37, 38] (by decide +kernel) (by decide +kernel)
set_option maxRecDepth 20000 in
theorem gX5_join_X5_joins : GoodIn wsX5_join (wsV RX5 66 RX5 yX5_joins wsX5_joins) := goodIn_app (goodIn_of _ (by decide +kernel)) ggX5_join_X5_joins
theorem dX5_join_0 : decode cX5_join 0 = .ok (.aload_n 0, 1) := by decide +kernel
theorem dX5_join_1 : decode cX5_join 1 = .ok (.iload_n 1, 1) := by decide +kernel
theorem dX5_join_2 : decode cX5_join 2 = .ok (.invokevirtual 51, 3) := by decide +kernel
theorem dX5_join_5 : decode cX5_join 5 = .ok (.ifCond .eq 11, 3) := by decide +kernel
theorem dX5_join_8 : decode cX5_join 8 = .ok (.aload_n 0, 1) := by decide +kernel
theorem dX5_join_9 : decode cX5_join 9 = .ok (.iload_n 2, 1) := by decide +kernel
theorem dX5_join_10 : decode cX5_join 10 = .ok (.invokevirtual 51, 3) := by decide +kernel
theorem dX5_join_13 : decode cX5_join 13 = .ok (.ifCond .ne 6, 3) := by decide +kernel
theorem dX5_join_16 : decode cX5_join 16 = .ok (.bipush (-2), 2) := by decide +kernel
theorem dX5_join_18 : decode cX5_join 18 = .ok (.ireturn, 1) := by decide +kernel
theorem dX5_join_19 : decode cX5_join 19 = .ok (.iload_n 1, 1) := by decide +kernel
theorem dX5_join_20 : decode cX5_join 20 = .ok (.iload_n 2, 1) := by decide +kernel
theorem dX5_join_21 : decode cX5_join 21 = .ok (.if_icmp .eq 12, 3) := by decide +kernel
theorem dX5_join_24 : decode cX5_join 24 = .ok (.aload_n 0, 1) := by decide +kernel
theorem dX5_join_25 : decode cX5_join 25 = .ok (.iload_n 1, 1) := by decide +kernel
theorem dX5_join_26 : decode cX5_join 26 = .ok (.iload_n 2, 1) := by decide +kernel
theorem dX5_join_27 : decode cX5_join 27 = .ok (.invokevirtual 63, 3) := by decide +kernel
theorem dX5_join_30 : decode cX5_join 30 = .ok (.ifCond .eq 6, 3) := by decide +kernel
theorem dX5_join_33 : decode cX5_join 33 = .ok (.bipush (-4), 2) := by decide +kernel
theorem dX5_join_35 : decode cX5_join 35 = .ok (.ireturn, 1) := by decide +kernel
theorem dX5_join_36 : decode cX5_join 36 = .ok (.aload_n 0, 1) := by decide +kernel
theorem dX5_join_37 : decode cX5_join 37 = .ok (.getfield 7, 3) := by decide +kernel
theorem dX5_join_40 : decode cX5_join 40 = .ok (.iconst 1, 1) := by decide +kernel
theorem dX5_join_41 : decode cX5_join 41 = .ok (.iaload, 1) := by decide +kernel
theorem dX5_join_42 : decode cX5_join 42 = .ok (.bipush 20, 2) := by decide +kernel
theorem dX5_join_44 : decode cX5_join 44 = .ok (.if_icmp .ne 6, 3) := by decide +kernel
theorem dX5_join_47 : decode cX5_join 47 = .ok (.bipush (-5), 2) := by decide +kernel
theorem dX5_join_49 : decode cX5_join 49 = .ok (.ireturn, 1) := by decide +kernel
theorem dX5_join_50 : decode cX5_join 50 = .ok (.aload_n 0, 1) := by decide +kernel
theorem dX5_join_51 : decode cX5_join 51 = .ok (.invokevirtual 44, 3) := by decide +kernel
theorem dX5_join_54 : decode cX5_join 54 = .ok (.aload_n 0, 1) := by decide +kernel
theorem dX5_join_55 : decode cX5_join 55 = .ok (.iload_n 1, 1) := by decide +kernel
theorem dX5_join_56 : decode cX5_join 56 = .ok (.iload_n 2, 1) := by decide +kernel
theorem dX5_join_57 : decode cX5_join 57 = .ok (.invokevirtual 66, 3) := by decide +kernel
theorem dX5_join_60 : decode cX5_join 60 = .ok (.aload_n 0, 1) := by decide +kernel
theorem dX5_join_61 : decode cX5_join 61 = .ok (.getfield 7, 3) := by decide +kernel
theorem dX5_join_64 : decode cX5_join 64 = .ok (.iconst 1, 1) := by decide +kernel
theorem dX5_join_65 : decode cX5_join 65 = .ok (.iaload, 1) := by decide +kernel
theorem dX5_join_66 : decode cX5_join 66 = .ok (.iconst 1, 1) := by decide +kernel
theorem dX5_join_67 : decode cX5_join 67 = .ok (.isub, 1) := by decide +kernel
theorem dX5_join_68 : decode cX5_join 68 = .ok (.ireturn, 1) := by decide +kernel
set_option maxRecDepth 20000 in
theorem ggX5_part_X5_isJoint : GoodIn wsX5_part wsX5_isJoint := goodIn_r _ [6, 1, 7, 8, 5, 9, 23, 24, 25, 26, 27, 28, 29, 30, 31, 32, 33, 34] (by decide +kernel) (by decide +kernel)
set_option maxRecDepth 20000 in
theorem gX5_part_X5_isJoint : GoodIn wsX5_part (wsV RX5 69 RX5 yX5_isJoint wsX5_isJoint) := goodIn_app (goodIn_of _ (by decide +kernel)) ggX5_part_X5_isJoint
set_option maxRecDepth 20000 in
theorem ggX5_part_X5_saves : GoodIn wsX5_part wsX5_saves := goodIn_r _ [13, 14, 15, 16, 17, 5, 18, 1, 23, 24, 25, 26, 27, 28, 29, 30, 31, 32, 33, 34] (by decide +kernel) (by decide +kernel)
set_option maxRecDepth 20000 in
theorem gX5_part_X5_saves : GoodIn wsX5_part (wsV RX5 44 RX5 yX5_saves wsX5_saves) := goodIn_app (goodIn_of _ (by decide +kernel)) ggX5_part_X5_saves
set_option maxRecDepth 20000 in
theorem ggX5_part_X5_parts : GoodIn wsX5_part wsX5_parts := goodIn_r _ [22, 1, 23, 24, 25, 26, 27, 28, 29, 30, 31, 32, 33, 34] (by decide +kernel) (by decide +kernel)
set_option maxRecDepth 20000 in
theorem gX5_part_X5_parts : GoodIn wsX5_part (wsV RX5 59 RX5 yX5_parts wsX5_parts) := goodIn_app (goodIn_of _ (by decide +kernel)) ggX5_part_X5_parts
theorem dX5_part_0 : decode cX5_part 0 = .ok (.aload_n 0, 1) := by decide +kernel
theorem dX5_part_1 : decode cX5_part 1 = .ok (.iload_n 1, 1) := by decide +kernel
theorem dX5_part_2 : decode cX5_part 2 = .ok (.invokevirtual 69, 3) := by decide +kernel
theorem dX5_part_5 : decode cX5_part 5 = .ok (.ifCond .ne 6, 3) := by decide +kernel
theorem dX5_part_8 : decode cX5_part 8 = .ok (.bipush (-2), 2) := by decide +kernel
theorem dX5_part_10 : decode cX5_part 10 = .ok (.ireturn, 1) := by decide +kernel
theorem dX5_part_11 : decode cX5_part 11 = .ok (.aload_n 0, 1) := by decide +kernel
theorem dX5_part_12 : decode cX5_part 12 = .ok (.invokevirtual 44, 3) := by decide +kernel
theorem dX5_part_15 : decode cX5_part 15 = .ok (.aload_n 0, 1) := by decide +kernel
theorem dX5_part_16 : decode cX5_part 16 = .ok (.iload_n 1, 1) := by decide +kernel
theorem dX5_part_17 : decode cX5_part 17 = .ok (.invokevirtual 59, 3) := by decide +kernel
theorem dX5_part_20 : decode cX5_part 20 = .ok (.aload_n 0, 1) := by decide +kernel
theorem dX5_part_21 : decode cX5_part 21 = .ok (.getfield 7, 3) := by decide +kernel
theorem dX5_part_24 : decode cX5_part 24 = .ok (.iconst 1, 1) := by decide +kernel
theorem dX5_part_25 : decode cX5_part 25 = .ok (.iaload, 1) := by decide +kernel
theorem dX5_part_26 : decode cX5_part 26 = .ok (.ireturn, 1) := by decide +kernel
set_option maxRecDepth 20000 in
theorem ggX5_setMetal_X5_in : GoodIn wsX5_setMetal wsX5_in := goodIn_r _ [5] (by decide +kernel) (by decide +kernel)
set_option maxRecDepth 20000 in
theorem gX5_setMetal_X5_in : GoodIn wsX5_setMetal (va_wsS RX5 36 yX5_in wsX5_in) := goodIn_app (goodIn_of _ (by decide +kernel)) ggX5_setMetal_X5_in
set_option maxRecDepth 20000 in
theorem ggX5_setMetal_X5_saves : GoodIn wsX5_setMetal wsX5_saves := goodIn_r _ [9, 10, 11, 12, 13, 4, 14, 1, 15, 16, 17, 18, 19, 20, 21, 22, 23, 24, 25, 26] (by decide +kernel) (by decide +kernel)
set_option maxRecDepth 20000 in
theorem gX5_setMetal_X5_saves : GoodIn wsX5_setMetal (wsV RX5 44 RX5 yX5_saves wsX5_saves) := goodIn_app (goodIn_of _ (by decide +kernel)) ggX5_setMetal_X5_saves
theorem dX5_setMetal_0 : decode cX5_setMetal 0 = .ok (.iload_n 1, 1) := by decide +kernel
theorem dX5_setMetal_1 : decode cX5_setMetal 1 = .ok (.iconst 0, 1) := by decide +kernel
theorem dX5_setMetal_2 : decode cX5_setMetal 2 = .ok (.sipush 200, 3) := by decide +kernel
theorem dX5_setMetal_5 : decode cX5_setMetal 5 = .ok (.invokestatic 36, 3) := by decide +kernel
theorem dX5_setMetal_8 : decode cX5_setMetal 8 = .ok (.ifCond .eq 14, 3) := by decide +kernel
theorem dX5_setMetal_11 : decode cX5_setMetal 11 = .ok (.iload_n 2, 1) := by decide +kernel
theorem dX5_setMetal_12 : decode cX5_setMetal 12 = .ok (.iconst 0, 1) := by decide +kernel
theorem dX5_setMetal_13 : decode cX5_setMetal 13 = .ok (.sipush 500, 3) := by decide +kernel
theorem dX5_setMetal_16 : decode cX5_setMetal 16 = .ok (.invokestatic 36, 3) := by decide +kernel
theorem dX5_setMetal_19 : decode cX5_setMetal 19 = .ok (.ifCond .ne 6, 3) := by decide +kernel
theorem dX5_setMetal_22 : decode cX5_setMetal 22 = .ok (.bipush (-3), 2) := by decide +kernel
theorem dX5_setMetal_24 : decode cX5_setMetal 24 = .ok (.ireturn, 1) := by decide +kernel
theorem dX5_setMetal_25 : decode cX5_setMetal 25 = .ok (.aload_n 0, 1) := by decide +kernel
theorem dX5_setMetal_26 : decode cX5_setMetal 26 = .ok (.invokevirtual 44, 3) := by decide +kernel
theorem dX5_setMetal_29 : decode cX5_setMetal 29 = .ok (.aload_n 0, 1) := by decide +kernel
theorem dX5_setMetal_30 : decode cX5_setMetal 30 = .ok (.getfield 7, 3) := by decide +kernel
theorem dX5_setMetal_33 : decode cX5_setMetal 33 = .ok (.iconst 2, 1) := by decide +kernel
theorem dX5_setMetal_34 : decode cX5_setMetal 34 = .ok (.iaload, 1) := by decide +kernel
theorem dX5_setMetal_35 : decode cX5_setMetal 35 = .ok (.istore_n 3, 1) := by decide +kernel
theorem dX5_setMetal_36 : decode cX5_setMetal 36 = .ok (.aload_n 0, 1) := by decide +kernel
theorem dX5_setMetal_37 : decode cX5_setMetal 37 = .ok (.getfield 7, 3) := by decide +kernel
theorem dX5_setMetal_40 : decode cX5_setMetal 40 = .ok (.iconst 2, 1) := by decide +kernel
theorem dX5_setMetal_41 : decode cX5_setMetal 41 = .ok (.iload_n 1, 1) := by decide +kernel
theorem dX5_setMetal_42 : decode cX5_setMetal 42 = .ok (.iastore, 1) := by decide +kernel
theorem dX5_setMetal_43 : decode cX5_setMetal 43 = .ok (.aload_n 0, 1) := by decide +kernel
theorem dX5_setMetal_44 : decode cX5_setMetal 44 = .ok (.getfield 7, 3) := by decide +kernel
theorem dX5_setMetal_47 : decode cX5_setMetal 47 = .ok (.iconst 3, 1) := by decide +kernel
theorem dX5_setMetal_48 : decode cX5_setMetal 48 = .ok (.iload_n 2, 1) := by decide +kernel
theorem dX5_setMetal_49 : decode cX5_setMetal 49 = .ok (.iastore, 1) := by decide +kernel
theorem dX5_setMetal_50 : decode cX5_setMetal 50 = .ok (.iload_n 3, 1) := by decide +kernel
theorem dX5_setMetal_51 : decode cX5_setMetal 51 = .ok (.ireturn, 1) := by decide +kernel
set_option maxRecDepth 20000 in
theorem ggX5_isBefore_X5_of : GoodIn wsX5_isBefore wsX5_of := goodIn_r _ [5, 6, 7, 8, 9, 10, 11, 12, 13, 14, 15, 16, 17, 18] (by decide +kernel) (by decide +kernel)
set_option maxRecDepth 20000 in
theorem gX5_isBefore_X5_of : GoodIn wsX5_isBefore (wsV RX5 55 RX5 yX5_of wsX5_of) := goodIn_app (goodIn_of _ (by decide +kernel)) ggX5_isBefore_X5_of
theorem dX5_isBefore_0 : decode cX5_isBefore 0 = .ok (.aload_n 0, 1) := by decide +kernel
theorem dX5_isBefore_1 : decode cX5_isBefore 1 = .ok (.iload_n 1, 1) := by decide +kernel
theorem dX5_isBefore_2 : decode cX5_isBefore 2 = .ok (.iconst 0, 1) := by decide +kernel
theorem dX5_isBefore_3 : decode cX5_isBefore 3 = .ok (.invokevirtual 55, 3) := by decide +kernel
theorem dX5_isBefore_6 : decode cX5_isBefore 6 = .ok (.aload_n 0, 1) := by decide +kernel
theorem dX5_isBefore_7 : decode cX5_isBefore 7 = .ok (.iload_n 2, 1) := by decide +kernel
theorem dX5_isBefore_8 : decode cX5_isBefore 8 = .ok (.iconst 1, 1) := by decide +kernel
theorem dX5_isBefore_9 : decode cX5_isBefore 9 = .ok (.invokevirtual 55, 3) := by decide +kernel
theorem dX5_isBefore_12 : decode cX5_isBefore 12 = .ok (.aload_n 0, 1) := by decide +kernel
theorem dX5_isBefore_13 : decode cX5_isBefore 13 = .ok (.iload_n 2, 1) := by decide +kernel
theorem dX5_isBefore_14 : decode cX5_isBefore 14 = .ok (.iconst 2, 1) := by decide +kernel
theorem dX5_isBefore_15 : decode cX5_isBefore 15 = .ok (.invokevirtual 55, 3) := by decide +kernel
theorem dX5_isBefore_18 : decode cX5_isBefore 18 = .ok (.iadd, 1) := by decide +kernel
theorem dX5_isBefore_19 : decode cX5_isBefore 19 = .ok (.imul, 1) := by decide +kernel
theorem dX5_isBefore_20 : decode cX5_isBefore 20 = .ok (.istore_n 3, 1) := by decide +kernel
theorem dX5_isBefore_21 : decode cX5_isBefore 21 = .ok (.aload_n 0, 1) := by decide +kernel
theorem dX5_isBefore_22 : decode cX5_isBefore 22 = .ok (.iload_n 2, 1) := by decide +kernel
theorem dX5_isBefore_23 : decode cX5_isBefore 23 = .ok (.iconst 0, 1) := by decide +kernel
theorem dX5_isBefore_24 : decode cX5_isBefore 24 = .ok (.invokevirtual 55, 3) := by decide +kernel
theorem dX5_isBefore_27 : decode cX5_isBefore 27 = .ok (.aload_n 0, 1) := by decide +kernel
theorem dX5_isBefore_28 : decode cX5_isBefore 28 = .ok (.iload_n 1, 1) := by decide +kernel
theorem dX5_isBefore_29 : decode cX5_isBefore 29 = .ok (.iconst 1, 1) := by decide +kernel
theorem dX5_isBefore_30 : decode cX5_isBefore 30 = .ok (.invokevirtual 55, 3) := by decide +kernel
theorem dX5_isBefore_33 : decode cX5_isBefore 33 = .ok (.aload_n 0, 1) := by decide +kernel
theorem dX5_isBefore_34 : decode cX5_isBefore 34 = .ok (.iload_n 1, 1) := by decide +kernel
theorem dX5_isBefore_35 : decode cX5_isBefore 35 = .ok (.iconst 2, 1) := by decide +kernel
theorem dX5_isBefore_36 : decode cX5_isBefore 36 = .ok (.invokevirtual 55, 3) := by decide +kernel
theorem dX5_isBefore_39 : decode cX5_isBefore 39 = .ok (.iadd, 1) := by decide +kernel
theorem dX5_isBefore_40 : decode cX5_isBefore 40 = .ok (.imul, 1) := by decide +kernel
theorem dX5_isBefore_41 : decode cX5_isBefore 41 = .ok (.istore 4, 2) := by decide +kernel
theorem dX5_isBefore_43 : decode cX5_isBefore 43 = .ok (.iload_n 3, 1) := by decide +kernel
theorem dX5_isBefore_44 : decode cX5_isBefore 44 = .ok (.iload 4, 2) := by decide +kernel
theorem dX5_isBefore_46 : decode cX5_isBefore 46 = .ok (.if_icmp .lt 14, 3) := by decide +kernel
theorem dX5_isBefore_49 : decode cX5_isBefore 49 = .ok (.iload_n 3, 1) := by decide +kernel
theorem dX5_isBefore_50 : decode cX5_isBefore 50 = .ok (.iload 4, 2) := by decide +kernel
theorem dX5_isBefore_52 : decode cX5_isBefore 52 = .ok (.if_icmp .ne 12, 3) := by decide +kernel
theorem dX5_isBefore_55 : decode cX5_isBefore 55 = .ok (.iload_n 1, 1) := by decide +kernel
theorem dX5_isBefore_56 : decode cX5_isBefore 56 = .ok (.iload_n 2, 1) := by decide +kernel
theorem dX5_isBefore_57 : decode cX5_isBefore 57 = .ok (.if_icmp .ge 7, 3) := by decide +kernel
theorem dX5_isBefore_60 : decode cX5_isBefore 60 = .ok (.iconst 1, 1) := by decide +kernel
theorem dX5_isBefore_61 : decode cX5_isBefore 61 = .ok (.goto 4, 3) := by decide +kernel
theorem dX5_isBefore_64 : decode cX5_isBefore 64 = .ok (.iconst 0, 1) := by decide +kernel
theorem dX5_isBefore_65 : decode cX5_isBefore 65 = .ok (.ireturn, 1) := by decide +kernel
set_option maxRecDepth 20000 in
theorem ggX5_firstNeed_X5_of : GoodIn wsX5_firstNeed wsX5_of := goodIn_r _ [6, 1, 7, 8, 9, 10, 11, 12, 13, 14, 15, 16, 17, 18] (by decide +kernel) (by decide +kernel)
set_option maxRecDepth 20000 in
theorem gX5_firstNeed_X5_of : GoodIn wsX5_firstNeed (wsV RX5 55 RX5 yX5_of wsX5_of) := goodIn_app (goodIn_of _ (by decide +kernel)) ggX5_firstNeed_X5_of
theorem dX5_firstNeed_0 : decode cX5_firstNeed 0 = .ok (.aload_n 0, 1) := by decide +kernel
theorem dX5_firstNeed_1 : decode cX5_firstNeed 1 = .ok (.iload_n 1, 1) := by decide +kernel
theorem dX5_firstNeed_2 : decode cX5_firstNeed 2 = .ok (.iconst 0, 1) := by decide +kernel
theorem dX5_firstNeed_3 : decode cX5_firstNeed 3 = .ok (.invokevirtual 55, 3) := by decide +kernel
theorem dX5_firstNeed_6 : decode cX5_firstNeed 6 = .ok (.aload_n 0, 1) := by decide +kernel
theorem dX5_firstNeed_7 : decode cX5_firstNeed 7 = .ok (.getfield 7, 3) := by decide +kernel
theorem dX5_firstNeed_10 : decode cX5_firstNeed 10 = .ok (.iconst 2, 1) := by decide +kernel
theorem dX5_firstNeed_11 : decode cX5_firstNeed 11 = .ok (.iaload, 1) := by decide +kernel
theorem dX5_firstNeed_12 : decode cX5_firstNeed 12 = .ok (.imul, 1) := by decide +kernel
theorem dX5_firstNeed_13 : decode cX5_firstNeed 13 = .ok (.sipush 1000, 3) := by decide +kernel
theorem dX5_firstNeed_16 : decode cX5_firstNeed 16 = .ok (.idiv, 1) := by decide +kernel
theorem dX5_firstNeed_17 : decode cX5_firstNeed 17 = .ok (.ireturn, 1) := by decide +kernel
set_option maxRecDepth 20000 in
theorem ggX5_freezes_X5_isBefore : GoodIn wsX5_freezes wsX5_isBefore := goodIn_r _ [10, 11, 12, 13, 9, 14, 1, 23, 24, 25, 26, 27, 28, 29, 30, 31, 32, 33, 34] (by decide +kernel) (by decide +kernel)
set_option maxRecDepth 20000 in
theorem gX5_freezes_X5_isBefore : GoodIn wsX5_freezes (wsV RX5 72 RX5 yX5_isBefore wsX5_isBefore) := goodIn_app (goodIn_of _ (by decide +kernel)) ggX5_freezes_X5_isBefore
set_option maxRecDepth 20000 in
theorem ggX5_freezes_X5_firstNeed : GoodIn wsX5_freezes wsX5_firstNeed := goodIn_r _ [18, 1, 11, 12, 13, 9, 14, 23, 24, 25, 26, 27, 28, 29, 30, 31, 32, 33, 34] (by decide +kernel) (by decide +kernel)
set_option maxRecDepth 20000 in
theorem gX5_freezes_X5_firstNeed : GoodIn wsX5_freezes (wsV RX5 75 RX5 yX5_firstNeed wsX5_firstNeed) := goodIn_app (goodIn_of _ (by decide +kernel)) ggX5_freezes_X5_firstNeed
set_option maxRecDepth 20000 in
theorem ggX5_freezes_X5_areNeighbours : GoodIn wsX5_freezes wsX5_areNeighbours := goodIn_r _ [22, 1, 23, 24, 25, 26, 27, 28, 29, 30, 31, 32, 33, 34] (by decide +kernel) (by decide +kernel)
set_option maxRecDepth 20000 in
theorem gX5_freezes_X5_areNeighbours : GoodIn wsX5_freezes (wsV RX5 63 RX5 yX5_areNeighbours wsX5_areNeighbours) := goodIn_app (goodIn_of _ (by decide +kernel)) ggX5_freezes_X5_areNeighbours
theorem dX5_freezes_0 : decode cX5_freezes 0 = .ok (.iconst 0, 1) := by decide +kernel
theorem dX5_freezes_1 : decode cX5_freezes 1 = .ok (.istore_n 1, 1) := by decide +kernel
theorem dX5_freezes_2 : decode cX5_freezes 2 = .ok (.iload_n 1, 1) := by decide +kernel
theorem dX5_freezes_3 : decode cX5_freezes 3 = .ok (.aload_n 0, 1) := by decide +kernel
theorem dX5_freezes_4 : decode cX5_freezes 4 = .ok (.getfield 7, 3) := by decide +kernel
theorem dX5_freezes_7 : decode cX5_freezes 7 = .ok (.iconst 0, 1) := by decide +kernel
theorem dX5_freezes_8 : decode cX5_freezes 8 = .ok (.iaload, 1) := by decide +kernel
theorem dX5_freezes_9 : decode cX5_freezes 9 = .ok (.if_icmp .ge 85, 3) := by decide +kernel
theorem dX5_freezes_12 : decode cX5_freezes 12 = .ok (.aload_n 0, 1) := by decide +kernel
theorem dX5_freezes_13 : decode cX5_freezes 13 = .ok (.getfield 16, 3) := by decide +kernel
theorem dX5_freezes_16 : decode cX5_freezes 16 = .ok (.iload_n 1, 1) := by decide +kernel
theorem dX5_freezes_17 : decode cX5_freezes 17 = .ok (.iconst 0, 1) := by decide +kernel
theorem dX5_freezes_18 : decode cX5_freezes 18 = .ok (.iastore, 1) := by decide +kernel
theorem dX5_freezes_19 : decode cX5_freezes 19 = .ok (.iconst 0, 1) := by decide +kernel
theorem dX5_freezes_20 : decode cX5_freezes 20 = .ok (.istore_n 2, 1) := by decide +kernel
theorem dX5_freezes_21 : decode cX5_freezes 21 = .ok (.iload_n 2, 1) := by decide +kernel
theorem dX5_freezes_22 : decode cX5_freezes 22 = .ok (.aload_n 0, 1) := by decide +kernel
theorem dX5_freezes_23 : decode cX5_freezes 23 = .ok (.getfield 7, 3) := by decide +kernel
theorem dX5_freezes_26 : decode cX5_freezes 26 = .ok (.iconst 0, 1) := by decide +kernel
theorem dX5_freezes_27 : decode cX5_freezes 27 = .ok (.iaload, 1) := by decide +kernel
theorem dX5_freezes_28 : decode cX5_freezes 28 = .ok (.if_icmp .ge 37, 3) := by decide +kernel
theorem dX5_freezes_31 : decode cX5_freezes 31 = .ok (.aload_n 0, 1) := by decide +kernel
theorem dX5_freezes_32 : decode cX5_freezes 32 = .ok (.getfield 16, 3) := by decide +kernel
theorem dX5_freezes_35 : decode cX5_freezes 35 = .ok (.iload_n 1, 1) := by decide +kernel
theorem dX5_freezes_36 : decode cX5_freezes 36 = .ok (.dup2, 1) := by decide +kernel
theorem dX5_freezes_37 : decode cX5_freezes 37 = .ok (.iaload, 1) := by decide +kernel
theorem dX5_freezes_38 : decode cX5_freezes 38 = .ok (.iload_n 2, 1) := by decide +kernel
theorem dX5_freezes_39 : decode cX5_freezes 39 = .ok (.iload_n 1, 1) := by decide +kernel
theorem dX5_freezes_40 : decode cX5_freezes 40 = .ok (.if_icmp .eq 16, 3) := by decide +kernel
theorem dX5_freezes_43 : decode cX5_freezes 43 = .ok (.aload_n 0, 1) := by decide +kernel
theorem dX5_freezes_44 : decode cX5_freezes 44 = .ok (.iload_n 2, 1) := by decide +kernel
theorem dX5_freezes_45 : decode cX5_freezes 45 = .ok (.iload_n 1, 1) := by decide +kernel
theorem dX5_freezes_46 : decode cX5_freezes 46 = .ok (.invokevirtual 72, 3) := by decide +kernel
theorem dX5_freezes_49 : decode cX5_freezes 49 = .ok (.ifCond .eq 7, 3) := by decide +kernel
theorem dX5_freezes_52 : decode cX5_freezes 52 = .ok (.iconst 1, 1) := by decide +kernel
theorem dX5_freezes_53 : decode cX5_freezes 53 = .ok (.goto 4, 3) := by decide +kernel
theorem dX5_freezes_56 : decode cX5_freezes 56 = .ok (.iconst 0, 1) := by decide +kernel
theorem dX5_freezes_57 : decode cX5_freezes 57 = .ok (.iadd, 1) := by decide +kernel
theorem dX5_freezes_58 : decode cX5_freezes 58 = .ok (.iastore, 1) := by decide +kernel
theorem dX5_freezes_59 : decode cX5_freezes 59 = .ok (.iinc 2 1, 3) := by decide +kernel
theorem dX5_freezes_62 : decode cX5_freezes 62 = .ok (.goto (-41), 3) := by decide +kernel
theorem dX5_freezes_65 : decode cX5_freezes 65 = .ok (.aload_n 0, 1) := by decide +kernel
theorem dX5_freezes_66 : decode cX5_freezes 66 = .ok (.getfield 13, 3) := by decide +kernel
theorem dX5_freezes_69 : decode cX5_freezes 69 = .ok (.aload_n 0, 1) := by decide +kernel
theorem dX5_freezes_70 : decode cX5_freezes 70 = .ok (.getfield 16, 3) := by decide +kernel
theorem dX5_freezes_73 : decode cX5_freezes 73 = .ok (.iload_n 1, 1) := by decide +kernel
theorem dX5_freezes_74 : decode cX5_freezes 74 = .ok (.iaload, 1) := by decide +kernel
theorem dX5_freezes_75 : decode cX5_freezes 75 = .ok (.iload_n 1, 1) := by decide +kernel
theorem dX5_freezes_76 : decode cX5_freezes 76 = .ok (.iastore, 1) := by decide +kernel
theorem dX5_freezes_77 : decode cX5_freezes 77 = .ok (.aload_n 0, 1) := by decide +kernel
theorem dX5_freezes_78 : decode cX5_freezes 78 = .ok (.getfield 19, 3) := by decide +kernel
theorem dX5_freezes_81 : decode cX5_freezes 81 = .ok (.iload_n 1, 1) := by decide +kernel
theorem dX5_freezes_82 : decode cX5_freezes 82 = .ok (.aload_n 0, 1) := by decide +kernel
theorem dX5_freezes_83 : decode cX5_freezes 83 = .ok (.iload_n 1, 1) := by decide +kernel
theorem dX5_freezes_84 : decode cX5_freezes 84 = .ok (.invokevirtual 75, 3) := by decide +kernel
theorem dX5_freezes_87 : decode cX5_freezes 87 = .ok (.iastore, 1) := by decide +kernel
theorem dX5_freezes_88 : decode cX5_freezes 88 = .ok (.iinc 1 1, 3) := by decide +kernel
theorem dX5_freezes_91 : decode cX5_freezes 91 = .ok (.goto (-89), 3) := by decide +kernel
theorem dX5_freezes_94 : decode cX5_freezes 94 = .ok (.iconst 0, 1) := by decide +kernel
theorem dX5_freezes_95 : decode cX5_freezes 95 = .ok (.istore_n 1, 1) := by decide +kernel
theorem dX5_freezes_96 : decode cX5_freezes 96 = .ok (.iload_n 1, 1) := by decide +kernel
theorem dX5_freezes_97 : decode cX5_freezes 97 = .ok (.aload_n 0, 1) := by decide +kernel
theorem dX5_freezes_98 : decode cX5_freezes 98 = .ok (.getfield 7, 3) := by decide +kernel
theorem dX5_freezes_101 : decode cX5_freezes 101 = .ok (.iconst 0, 1) := by decide +kernel
theorem dX5_freezes_102 : decode cX5_freezes 102 = .ok (.iaload, 1) := by decide +kernel
theorem dX5_freezes_103 : decode cX5_freezes 103 = .ok (.if_icmp .ge 113, 3) := by decide +kernel
theorem dX5_freezes_106 : decode cX5_freezes 106 = .ok (.aload_n 0, 1) := by decide +kernel
theorem dX5_freezes_107 : decode cX5_freezes 107 = .ok (.getfield 13, 3) := by decide +kernel
theorem dX5_freezes_110 : decode cX5_freezes 110 = .ok (.iload_n 1, 1) := by decide +kernel
theorem dX5_freezes_111 : decode cX5_freezes 111 = .ok (.iaload, 1) := by decide +kernel
theorem dX5_freezes_112 : decode cX5_freezes 112 = .ok (.istore_n 2, 1) := by decide +kernel
theorem dX5_freezes_113 : decode cX5_freezes 113 = .ok (.aload_n 0, 1) := by decide +kernel
theorem dX5_freezes_114 : decode cX5_freezes 114 = .ok (.getfield 22, 3) := by decide +kernel
theorem dX5_freezes_117 : decode cX5_freezes 117 = .ok (.iload_n 2, 1) := by decide +kernel
theorem dX5_freezes_118 : decode cX5_freezes 118 = .ok (.iconst (-1), 1) := by decide +kernel
theorem dX5_freezes_119 : decode cX5_freezes 119 = .ok (.iastore, 1) := by decide +kernel
theorem dX5_freezes_120 : decode cX5_freezes 120 = .ok (.aload_n 0, 1) := by decide +kernel
theorem dX5_freezes_121 : decode cX5_freezes 121 = .ok (.getfield 7, 3) := by decide +kernel
theorem dX5_freezes_124 : decode cX5_freezes 124 = .ok (.iconst 0, 1) := by decide +kernel
theorem dX5_freezes_125 : decode cX5_freezes 125 = .ok (.iaload, 1) := by decide +kernel
theorem dX5_freezes_126 : decode cX5_freezes 126 = .ok (.iconst 1, 1) := by decide +kernel
theorem dX5_freezes_127 : decode cX5_freezes 127 = .ok (.isub, 1) := by decide +kernel
theorem dX5_freezes_128 : decode cX5_freezes 128 = .ok (.istore_n 3, 1) := by decide +kernel
theorem dX5_freezes_129 : decode cX5_freezes 129 = .ok (.iload_n 3, 1) := by decide +kernel
theorem dX5_freezes_130 : decode cX5_freezes 130 = .ok (.iload_n 1, 1) := by decide +kernel
theorem dX5_freezes_131 : decode cX5_freezes 131 = .ok (.if_icmp .le 49, 3) := by decide +kernel
theorem dX5_freezes_134 : decode cX5_freezes 134 = .ok (.aload_n 0, 1) := by decide +kernel
theorem dX5_freezes_135 : decode cX5_freezes 135 = .ok (.getfield 22, 3) := by decide +kernel
theorem dX5_freezes_138 : decode cX5_freezes 138 = .ok (.iload_n 2, 1) := by decide +kernel
theorem dX5_freezes_139 : decode cX5_freezes 139 = .ok (.iaload, 1) := by decide +kernel
theorem dX5_freezes_140 : decode cX5_freezes 140 = .ok (.iconst (-1), 1) := by decide +kernel
theorem dX5_freezes_141 : decode cX5_freezes 141 = .ok (.if_icmp .ne 39, 3) := by decide +kernel
theorem dX5_freezes_144 : decode cX5_freezes 144 = .ok (.aload_n 0, 1) := by decide +kernel
theorem dX5_freezes_145 : decode cX5_freezes 145 = .ok (.getfield 22, 3) := by decide +kernel
theorem dX5_freezes_148 : decode cX5_freezes 148 = .ok (.iload_n 2, 1) := by decide +kernel
theorem dX5_freezes_149 : decode cX5_freezes 149 = .ok (.aload_n 0, 1) := by decide +kernel
theorem dX5_freezes_150 : decode cX5_freezes 150 = .ok (.iload_n 2, 1) := by decide +kernel
theorem dX5_freezes_151 : decode cX5_freezes 151 = .ok (.aload_n 0, 1) := by decide +kernel
theorem dX5_freezes_152 : decode cX5_freezes 152 = .ok (.getfield 13, 3) := by decide +kernel
theorem dX5_freezes_155 : decode cX5_freezes 155 = .ok (.iload_n 3, 1) := by decide +kernel
theorem dX5_freezes_156 : decode cX5_freezes 156 = .ok (.iaload, 1) := by decide +kernel
theorem dX5_freezes_157 : decode cX5_freezes 157 = .ok (.invokevirtual 63, 3) := by decide +kernel
theorem dX5_freezes_160 : decode cX5_freezes 160 = .ok (.ifCond .eq 12, 3) := by decide +kernel
theorem dX5_freezes_163 : decode cX5_freezes 163 = .ok (.aload_n 0, 1) := by decide +kernel
theorem dX5_freezes_164 : decode cX5_freezes 164 = .ok (.getfield 13, 3) := by decide +kernel
theorem dX5_freezes_167 : decode cX5_freezes 167 = .ok (.iload_n 3, 1) := by decide +kernel
theorem dX5_freezes_168 : decode cX5_freezes 168 = .ok (.iaload, 1) := by decide +kernel
theorem dX5_freezes_169 : decode cX5_freezes 169 = .ok (.goto 4, 3) := by decide +kernel
theorem dX5_freezes_172 : decode cX5_freezes 172 = .ok (.iconst (-1), 1) := by decide +kernel
theorem dX5_freezes_173 : decode cX5_freezes 173 = .ok (.iastore, 1) := by decide +kernel
theorem dX5_freezes_174 : decode cX5_freezes 174 = .ok (.iinc 3 (-1), 3) := by decide +kernel
theorem dX5_freezes_177 : decode cX5_freezes 177 = .ok (.goto (-48), 3) := by decide +kernel
theorem dX5_freezes_180 : decode cX5_freezes 180 = .ok (.aload_n 0, 1) := by decide +kernel
theorem dX5_freezes_181 : decode cX5_freezes 181 = .ok (.getfield 22, 3) := by decide +kernel
theorem dX5_freezes_184 : decode cX5_freezes 184 = .ok (.iload_n 2, 1) := by decide +kernel
theorem dX5_freezes_185 : decode cX5_freezes 185 = .ok (.iaload, 1) := by decide +kernel
theorem dX5_freezes_186 : decode cX5_freezes 186 = .ok (.iconst (-1), 1) := by decide +kernel
theorem dX5_freezes_187 : decode cX5_freezes 187 = .ok (.if_icmp .eq 23, 3) := by decide +kernel
theorem dX5_freezes_190 : decode cX5_freezes 190 = .ok (.aload_n 0, 1) := by decide +kernel
theorem dX5_freezes_191 : decode cX5_freezes 191 = .ok (.getfield 19, 3) := by decide +kernel
theorem dX5_freezes_194 : decode cX5_freezes 194 = .ok (.aload_n 0, 1) := by decide +kernel
theorem dX5_freezes_195 : decode cX5_freezes 195 = .ok (.getfield 22, 3) := by decide +kernel
theorem dX5_freezes_198 : decode cX5_freezes 198 = .ok (.iload_n 2, 1) := by decide +kernel
theorem dX5_freezes_199 : decode cX5_freezes 199 = .ok (.iaload, 1) := by decide +kernel
theorem dX5_freezes_200 : decode cX5_freezes 200 = .ok (.dup2, 1) := by decide +kernel
theorem dX5_freezes_201 : decode cX5_freezes 201 = .ok (.iaload, 1) := by decide +kernel
theorem dX5_freezes_202 : decode cX5_freezes 202 = .ok (.aload_n 0, 1) := by decide +kernel
theorem dX5_freezes_203 : decode cX5_freezes 203 = .ok (.getfield 19, 3) := by decide +kernel
theorem dX5_freezes_206 : decode cX5_freezes 206 = .ok (.iload_n 2, 1) := by decide +kernel
theorem dX5_freezes_207 : decode cX5_freezes 207 = .ok (.iaload, 1) := by decide +kernel
theorem dX5_freezes_208 : decode cX5_freezes 208 = .ok (.iadd, 1) := by decide +kernel
theorem dX5_freezes_209 : decode cX5_freezes 209 = .ok (.iastore, 1) := by decide +kernel
theorem dX5_freezes_210 : decode cX5_freezes 210 = .ok (.iinc 1 1, 3) := by decide +kernel
theorem dX5_freezes_213 : decode cX5_freezes 213 = .ok (.goto (-117), 3) := by decide +kernel
theorem dX5_freezes_216 : decode cX5_freezes 216 = .ok (.return_, 1) := by decide +kernel
theorem dX5_pores_0 : decode cX5_pores 0 = .ok (.aload_n 0, 1) := by decide +kernel
theorem dX5_pores_1 : decode cX5_pores 1 = .ok (.getfield 22, 3) := by decide +kernel
theorem dX5_pores_4 : decode cX5_pores 4 = .ok (.iload_n 1, 1) := by decide +kernel
theorem dX5_pores_5 : decode cX5_pores 5 = .ok (.iaload, 1) := by decide +kernel
theorem dX5_pores_6 : decode cX5_pores 6 = .ok (.iconst (-1), 1) := by decide +kernel
theorem dX5_pores_7 : decode cX5_pores 7 = .ok (.if_icmp .ne 12, 3) := by decide +kernel
theorem dX5_pores_10 : decode cX5_pores 10 = .ok (.aload_n 0, 1) := by decide +kernel
theorem dX5_pores_11 : decode cX5_pores 11 = .ok (.getfield 19, 3) := by decide +kernel
theorem dX5_pores_14 : decode cX5_pores 14 = .ok (.iload_n 1, 1) := by decide +kernel
theorem dX5_pores_15 : decode cX5_pores 15 = .ok (.iaload, 1) := by decide +kernel
theorem dX5_pores_16 : decode cX5_pores 16 = .ok (.goto 4, 3) := by decide +kernel
theorem dX5_pores_19 : decode cX5_pores 19 = .ok (.iconst 0, 1) := by decide +kernel
theorem dX5_pores_20 : decode cX5_pores 20 = .ok (.ireturn, 1) := by decide +kernel
set_option maxRecDepth 20000 in
theorem ggX5_excess_X5_of : GoodIn wsX5_excess wsX5_of := goodIn_r _ [6, 1, 13, 14, 15, 16, 17, 18, 19, 20, 21, 22, 23, 24] (by decide +kernel) (by decide +kernel)
set_option maxRecDepth 20000 in
theorem gX5_excess_X5_of : GoodIn wsX5_excess (wsV RX5 55 RX5 yX5_of wsX5_of) := goodIn_app (goodIn_of _ (by decide +kernel)) ggX5_excess_X5_of
set_option maxRecDepth 20000 in
theorem ggX5_excess_X5_pores : GoodIn wsX5_excess wsX5_pores := goodIn_r _ [10, 11, 12, 13, 14, 15, 16, 17, 18, 19, 20, 21, 22, 23, 24] (by decide +kernel) (by decide +kernel)
set_option maxRecDepth 20000 in
theorem gX5_excess_X5_pores : GoodIn wsX5_excess (wsV RX5 79 RX5 yX5_pores wsX5_pores) := goodIn_app (goodIn_of _ (by decide +kernel)) ggX5_excess_X5_pores
theorem dX5_excess_0 : decode cX5_excess 0 = .ok (.aload_n 0, 1) := by decide +kernel
theorem dX5_excess_1 : decode cX5_excess 1 = .ok (.iload_n 1, 1) := by decide +kernel
theorem dX5_excess_2 : decode cX5_excess 2 = .ok (.iconst 3, 1) := by decide +kernel
theorem dX5_excess_3 : decode cX5_excess 3 = .ok (.invokevirtual 55, 3) := by decide +kernel
theorem dX5_excess_6 : decode cX5_excess 6 = .ok (.iconst 1, 1) := by decide +kernel
theorem dX5_excess_7 : decode cX5_excess 7 = .ok (.if_icmp .ne 23, 3) := by decide +kernel
theorem dX5_excess_10 : decode cX5_excess 10 = .ok (.aload_n 0, 1) := by decide +kernel
theorem dX5_excess_11 : decode cX5_excess 11 = .ok (.iload_n 1, 1) := by decide +kernel
theorem dX5_excess_12 : decode cX5_excess 12 = .ok (.iconst 0, 1) := by decide +kernel
theorem dX5_excess_13 : decode cX5_excess 13 = .ok (.invokevirtual 55, 3) := by decide +kernel
theorem dX5_excess_16 : decode cX5_excess 16 = .ok (.aload_n 0, 1) := by decide +kernel
theorem dX5_excess_17 : decode cX5_excess 17 = .ok (.getfield 7, 3) := by decide +kernel
theorem dX5_excess_20 : decode cX5_excess 20 = .ok (.iconst 3, 1) := by decide +kernel
theorem dX5_excess_21 : decode cX5_excess 21 = .ok (.iaload, 1) := by decide +kernel
theorem dX5_excess_22 : decode cX5_excess 22 = .ok (.imul, 1) := by decide +kernel
theorem dX5_excess_23 : decode cX5_excess 23 = .ok (.sipush 1000, 3) := by decide +kernel
theorem dX5_excess_26 : decode cX5_excess 26 = .ok (.idiv, 1) := by decide +kernel
theorem dX5_excess_27 : decode cX5_excess 27 = .ok (.goto 4, 3) := by decide +kernel
theorem dX5_excess_30 : decode cX5_excess 30 = .ok (.iconst 0, 1) := by decide +kernel
theorem dX5_excess_31 : decode cX5_excess 31 = .ok (.istore_n 2, 1) := by decide +kernel
theorem dX5_excess_32 : decode cX5_excess 32 = .ok (.aload_n 0, 1) := by decide +kernel
theorem dX5_excess_33 : decode cX5_excess 33 = .ok (.iload_n 1, 1) := by decide +kernel
theorem dX5_excess_34 : decode cX5_excess 34 = .ok (.invokevirtual 79, 3) := by decide +kernel
theorem dX5_excess_37 : decode cX5_excess 37 = .ok (.iload_n 2, 1) := by decide +kernel
theorem dX5_excess_38 : decode cX5_excess 38 = .ok (.if_icmp .le 13, 3) := by decide +kernel
theorem dX5_excess_41 : decode cX5_excess 41 = .ok (.aload_n 0, 1) := by decide +kernel
theorem dX5_excess_42 : decode cX5_excess 42 = .ok (.iload_n 1, 1) := by decide +kernel
theorem dX5_excess_43 : decode cX5_excess 43 = .ok (.invokevirtual 79, 3) := by decide +kernel
theorem dX5_excess_46 : decode cX5_excess 46 = .ok (.iload_n 2, 1) := by decide +kernel
theorem dX5_excess_47 : decode cX5_excess 47 = .ok (.isub, 1) := by decide +kernel
theorem dX5_excess_48 : decode cX5_excess 48 = .ok (.goto 4, 3) := by decide +kernel
theorem dX5_excess_51 : decode cX5_excess 51 = .ok (.iconst 0, 1) := by decide +kernel
theorem dX5_excess_52 : decode cX5_excess 52 = .ok (.ireturn, 1) := by decide +kernel
set_option maxRecDepth 20000 in
theorem ggX5_excesses_X5_freezes : GoodIn wsX5_excesses wsX5_freezes := goodIn_r _ [6, 1, 7, 8, 9, 10, 11, 12, 13, 5, 14, 15, 16, 17, 18, 19, 20, 21, 22, 23, 24, 25, 26, 35, 36, 37, 38, 39, 40, 41, 42, 43, 44, 45, 46] (by decide +kernel) (by decide +kernel)
set_option maxRecDepth 20000 in
theorem gX5_excesses_X5_freezes : GoodIn wsX5_excesses (wsV RX5 82 RX5 yX5_freezes wsX5_freezes) := goodIn_app (goodIn_of _ (by decide +kernel)) ggX5_excesses_X5_freezes
set_option maxRecDepth 20000 in
theorem ggX5_excesses_X5_excess : GoodIn wsX5_excesses wsX5_excess := goodIn_r _ [30, 1, 15, 16, 17, 5, 18, 31, 32, 33, 34, 10, 9, 35, 36, 37, 38, 39, 40, 41, 42, 43, 44, 45, 46] (by decide +kernel) (by decide +kernel)
set_option maxRecDepth 20000 in
theorem gX5_excesses_X5_excess : GoodIn wsX5_excesses (wsV RX5 85 RX5 yX5_excess wsX5_excess) := goodIn_app (goodIn_of _ (by decide +kernel)) ggX5_excesses_X5_excess
theorem dX5_excesses_0 : decode cX5_excesses 0 = .ok (.aload_n 0, 1) := by decide +kernel
theorem dX5_excesses_1 : decode cX5_excesses 1 = .ok (.invokevirtual 82, 3) := by decide +kernel
theorem dX5_excesses_4 : decode cX5_excesses 4 = .ok (.iconst 0, 1) := by decide +kernel
theorem dX5_excesses_5 : decode cX5_excesses 5 = .ok (.istore_n 1, 1) := by decide +kernel
theorem dX5_excesses_6 : decode cX5_excesses 6 = .ok (.iconst 0, 1) := by decide +kernel
theorem dX5_excesses_7 : decode cX5_excesses 7 = .ok (.istore_n 2, 1) := by decide +kernel
theorem dX5_excesses_8 : decode cX5_excesses 8 = .ok (.iload_n 2, 1) := by decide +kernel
theorem dX5_excesses_9 : decode cX5_excesses 9 = .ok (.aload_n 0, 1) := by decide +kernel
theorem dX5_excesses_10 : decode cX5_excesses 10 = .ok (.getfield 7, 3) := by decide +kernel
theorem dX5_excesses_13 : decode cX5_excesses 13 = .ok (.iconst 0, 1) := by decide +kernel
theorem dX5_excesses_14 : decode cX5_excesses 14 = .ok (.iaload, 1) := by decide +kernel
theorem dX5_excesses_15 : decode cX5_excesses 15 = .ok (.if_icmp .ge 17, 3) := by decide +kernel
theorem dX5_excesses_18 : decode cX5_excesses 18 = .ok (.iload_n 1, 1) := by decide +kernel
theorem dX5_excesses_19 : decode cX5_excesses 19 = .ok (.aload_n 0, 1) := by decide +kernel
theorem dX5_excesses_20 : decode cX5_excesses 20 = .ok (.iload_n 2, 1) := by decide +kernel
theorem dX5_excesses_21 : decode cX5_excesses 21 = .ok (.invokevirtual 85, 3) := by decide +kernel
theorem dX5_excesses_24 : decode cX5_excesses 24 = .ok (.iadd, 1) := by decide +kernel
theorem dX5_excesses_25 : decode cX5_excesses 25 = .ok (.istore_n 1, 1) := by decide +kernel
theorem dX5_excesses_26 : decode cX5_excesses 26 = .ok (.iinc 2 1, 3) := by decide +kernel
theorem dX5_excesses_29 : decode cX5_excesses 29 = .ok (.goto (-21), 3) := by decide +kernel
theorem dX5_excesses_32 : decode cX5_excesses 32 = .ok (.iload_n 1, 1) := by decide +kernel
theorem dX5_excesses_33 : decode cX5_excesses 33 = .ok (.ireturn, 1) := by decide +kernel
set_option maxRecDepth 20000 in
theorem ggX5_yields_X5_of : GoodIn wsX5_yields wsX5_of := goodIn_r _ [6, 1, 7, 8, 9, 10, 11, 12, 13, 14, 15, 16, 17, 18] (by decide +kernel) (by decide +kernel)
set_option maxRecDepth 20000 in
theorem gX5_yields_X5_of : GoodIn wsX5_yields (wsV RX5 55 RX5 yX5_of wsX5_of) := goodIn_app (goodIn_of _ (by decide +kernel)) ggX5_yields_X5_of
theorem dX5_yields_0 : decode cX5_yields 0 = .ok (.iconst 0, 1) := by decide +kernel
theorem dX5_yields_1 : decode cX5_yields 1 = .ok (.istore_n 1, 1) := by decide +kernel
theorem dX5_yields_2 : decode cX5_yields 2 = .ok (.iconst 0, 1) := by decide +kernel
theorem dX5_yields_3 : decode cX5_yields 3 = .ok (.istore_n 2, 1) := by decide +kernel
theorem dX5_yields_4 : decode cX5_yields 4 = .ok (.iconst 0, 1) := by decide +kernel
theorem dX5_yields_5 : decode cX5_yields 5 = .ok (.istore_n 3, 1) := by decide +kernel
theorem dX5_yields_6 : decode cX5_yields 6 = .ok (.iload_n 3, 1) := by decide +kernel
theorem dX5_yields_7 : decode cX5_yields 7 = .ok (.aload_n 0, 1) := by decide +kernel
theorem dX5_yields_8 : decode cX5_yields 8 = .ok (.getfield 7, 3) := by decide +kernel
theorem dX5_yields_11 : decode cX5_yields 11 = .ok (.iconst 0, 1) := by decide +kernel
theorem dX5_yields_12 : decode cX5_yields 12 = .ok (.iaload, 1) := by decide +kernel
theorem dX5_yields_13 : decode cX5_yields 13 = .ok (.if_icmp .ge 41, 3) := by decide +kernel
theorem dX5_yields_16 : decode cX5_yields 16 = .ok (.iload_n 1, 1) := by decide +kernel
theorem dX5_yields_17 : decode cX5_yields 17 = .ok (.aload_n 0, 1) := by decide +kernel
theorem dX5_yields_18 : decode cX5_yields 18 = .ok (.iload_n 3, 1) := by decide +kernel
theorem dX5_yields_19 : decode cX5_yields 19 = .ok (.iconst 0, 1) := by decide +kernel
theorem dX5_yields_20 : decode cX5_yields 20 = .ok (.invokevirtual 55, 3) := by decide +kernel
theorem dX5_yields_23 : decode cX5_yields 23 = .ok (.iadd, 1) := by decide +kernel
theorem dX5_yields_24 : decode cX5_yields 24 = .ok (.istore_n 1, 1) := by decide +kernel
theorem dX5_yields_25 : decode cX5_yields 25 = .ok (.iload_n 2, 1) := by decide +kernel
theorem dX5_yields_26 : decode cX5_yields 26 = .ok (.aload_n 0, 1) := by decide +kernel
theorem dX5_yields_27 : decode cX5_yields 27 = .ok (.iload_n 3, 1) := by decide +kernel
theorem dX5_yields_28 : decode cX5_yields 28 = .ok (.iconst 3, 1) := by decide +kernel
theorem dX5_yields_29 : decode cX5_yields 29 = .ok (.invokevirtual 55, 3) := by decide +kernel
theorem dX5_yields_32 : decode cX5_yields 32 = .ok (.iconst 1, 1) := by decide +kernel
theorem dX5_yields_33 : decode cX5_yields 33 = .ok (.if_icmp .ne 7, 3) := by decide +kernel
theorem dX5_yields_36 : decode cX5_yields 36 = .ok (.iconst 0, 1) := by decide +kernel
theorem dX5_yields_37 : decode cX5_yields 37 = .ok (.goto 9, 3) := by decide +kernel
theorem dX5_yields_40 : decode cX5_yields 40 = .ok (.aload_n 0, 1) := by decide +kernel
theorem dX5_yields_41 : decode cX5_yields 41 = .ok (.iload_n 3, 1) := by decide +kernel
theorem dX5_yields_42 : decode cX5_yields 42 = .ok (.iconst 0, 1) := by decide +kernel
theorem dX5_yields_43 : decode cX5_yields 43 = .ok (.invokevirtual 55, 3) := by decide +kernel
theorem dX5_yields_46 : decode cX5_yields 46 = .ok (.iadd, 1) := by decide +kernel
theorem dX5_yields_47 : decode cX5_yields 47 = .ok (.istore_n 2, 1) := by decide +kernel
theorem dX5_yields_48 : decode cX5_yields 48 = .ok (.iinc 3 1, 3) := by decide +kernel
theorem dX5_yields_51 : decode cX5_yields 51 = .ok (.goto (-45), 3) := by decide +kernel
theorem dX5_yields_54 : decode cX5_yields 54 = .ok (.iload_n 1, 1) := by decide +kernel
theorem dX5_yields_55 : decode cX5_yields 55 = .ok (.ifCond .ne 7, 3) := by decide +kernel
theorem dX5_yields_58 : decode cX5_yields 58 = .ok (.iconst 0, 1) := by decide +kernel
theorem dX5_yields_59 : decode cX5_yields 59 = .ok (.goto 10, 3) := by decide +kernel
theorem dX5_yields_62 : decode cX5_yields 62 = .ok (.sipush 1000, 3) := by decide +kernel
theorem dX5_yields_65 : decode cX5_yields 65 = .ok (.iload_n 2, 1) := by decide +kernel
theorem dX5_yields_66 : decode cX5_yields 66 = .ok (.imul, 1) := by decide +kernel
theorem dX5_yields_67 : decode cX5_yields 67 = .ok (.iload_n 1, 1) := by decide +kernel
theorem dX5_yields_68 : decode cX5_yields 68 = .ok (.idiv, 1) := by decide +kernel
theorem dX5_yields_69 : decode cX5_yields 69 = .ok (.ireturn, 1) := by decide +kernel
set_option maxRecDepth 20000 in
theorem ggX5_count_X5_in : GoodIn wsX5_count wsX5_in := goodIn_r _ [6] (by decide +kernel) (by decide +kernel)
set_option maxRecDepth 20000 in
theorem gX5_count_X5_in : GoodIn wsX5_count (va_wsS RX5 36 yX5_in wsX5_in) := goodIn_app (goodIn_of _ (by decide +kernel)) ggX5_count_X5_in
set_option maxRecDepth 20000 in
theorem ggX5_count_X5_excesses : GoodIn wsX5_count wsX5_excesses := goodIn_r _ [10, 1, 11, 12, 13, 5, 14, 15, 16, 17, 2, 18, 19, 20, 21, 22, 23, 24, 25, 26, 27, 28, 29, 30, 31, 32, 33, 34, 35, 36, 37, 38, 39, 40, 41, 46, 47, 48, 49, 50, 51, 52, 53, 54, 55, 56, 57] (by decide +kernel) (by decide +kernel)
set_option maxRecDepth 20000 in
theorem gX5_count_X5_excesses : GoodIn wsX5_count (wsV RX5 88 RX5 yX5_excesses wsX5_excesses) := goodIn_app (goodIn_of _ (by decide +kernel)) ggX5_count_X5_excesses
set_option maxRecDepth 20000 in
theorem ggX5_count_X5_of : GoodIn wsX5_count wsX5_of := goodIn_r _ [25, 1, 46, 47, 48, 49, 50, 51, 52, 53, 54, 55, 56, 57] (by decide +kernel) (by decide +kernel)
set_option maxRecDepth 20000 in
theorem gX5_count_X5_of : GoodIn wsX5_count (wsV RX5 55 RX5 yX5_of wsX5_of) := goodIn_app (goodIn_of _ (by decide +kernel)) ggX5_count_X5_of
set_option maxRecDepth 20000 in
theorem ggX5_count_X5_pores : GoodIn wsX5_count wsX5_pores := goodIn_r _ [41, 2, 17, 46, 47, 48, 49, 50, 51, 52, 53, 54, 55, 56, 57] (by decide +kernel) (by decide +kernel)
set_option maxRecDepth 20000 in
theorem gX5_count_X5_pores : GoodIn wsX5_count (wsV RX5 79 RX5 yX5_pores wsX5_pores) := goodIn_app (goodIn_of _ (by decide +kernel)) ggX5_count_X5_pores
set_option maxRecDepth 20000 in
theorem ggX5_count_X5_yields : GoodIn wsX5_count wsX5_yields := goodIn_r _ [45, 1, 22, 23, 24, 5, 25, 46, 47, 48, 49, 50, 51, 52, 53, 54, 55, 56, 57] (by decide +kernel) (by decide +kernel)
set_option maxRecDepth 20000 in
theorem gX5_count_X5_yields : GoodIn wsX5_count (wsV RX5 92 RX5 yX5_yields wsX5_yields) := goodIn_app (goodIn_of _ (by decide +kernel)) ggX5_count_X5_yields
theorem dX5_count_0 : decode cX5_count 0 = .ok (.iload_n 1, 1) := by decide +kernel
theorem dX5_count_1 : decode cX5_count 1 = .ok (.iconst 0, 1) := by decide +kernel
theorem dX5_count_2 : decode cX5_count 2 = .ok (.bipush 9, 2) := by decide +kernel
theorem dX5_count_4 : decode cX5_count 4 = .ok (.invokestatic 36, 3) := by decide +kernel
theorem dX5_count_7 : decode cX5_count 7 = .ok (.ifCond .ne 6, 3) := by decide +kernel
theorem dX5_count_10 : decode cX5_count 10 = .ok (.bipush (-3), 2) := by decide +kernel
theorem dX5_count_12 : decode cX5_count 12 = .ok (.ireturn, 1) := by decide +kernel
theorem dX5_count_13 : decode cX5_count 13 = .ok (.iload_n 1, 1) := by decide +kernel
theorem dX5_count_14 : decode cX5_count 14 = .ok (.iconst 4, 1) := by decide +kernel
theorem dX5_count_15 : decode cX5_count 15 = .ok (.if_icmp .ge 10, 3) := by decide +kernel
theorem dX5_count_18 : decode cX5_count 18 = .ok (.aload_n 0, 1) := by decide +kernel
theorem dX5_count_19 : decode cX5_count 19 = .ok (.getfield 7, 3) := by decide +kernel
theorem dX5_count_22 : decode cX5_count 22 = .ok (.iload_n 1, 1) := by decide +kernel
theorem dX5_count_23 : decode cX5_count 23 = .ok (.iaload, 1) := by decide +kernel
theorem dX5_count_24 : decode cX5_count 24 = .ok (.ireturn, 1) := by decide +kernel
theorem dX5_count_25 : decode cX5_count 25 = .ok (.aload_n 0, 1) := by decide +kernel
theorem dX5_count_26 : decode cX5_count 26 = .ok (.invokevirtual 88, 3) := by decide +kernel
theorem dX5_count_29 : decode cX5_count 29 = .ok (.istore_n 2, 1) := by decide +kernel
theorem dX5_count_30 : decode cX5_count 30 = .ok (.iconst 0, 1) := by decide +kernel
theorem dX5_count_31 : decode cX5_count 31 = .ok (.istore_n 3, 1) := by decide +kernel
theorem dX5_count_32 : decode cX5_count 32 = .ok (.iconst 0, 1) := by decide +kernel
theorem dX5_count_33 : decode cX5_count 33 = .ok (.istore 4, 2) := by decide +kernel
theorem dX5_count_35 : decode cX5_count 35 = .ok (.iload 4, 2) := by decide +kernel
theorem dX5_count_37 : decode cX5_count 37 = .ok (.aload_n 0, 1) := by decide +kernel
theorem dX5_count_38 : decode cX5_count 38 = .ok (.getfield 7, 3) := by decide +kernel
theorem dX5_count_41 : decode cX5_count 41 = .ok (.iconst 0, 1) := by decide +kernel
theorem dX5_count_42 : decode cX5_count 42 = .ok (.iaload, 1) := by decide +kernel
theorem dX5_count_43 : decode cX5_count 43 = .ok (.if_icmp .ge 57, 3) := by decide +kernel
theorem dX5_count_46 : decode cX5_count 46 = .ok (.iload_n 3, 1) := by decide +kernel
theorem dX5_count_47 : decode cX5_count 47 = .ok (.iload_n 1, 1) := by decide +kernel
theorem dX5_count_48 : decode cX5_count 48 = .ok (.iconst 4, 1) := by decide +kernel
theorem dX5_count_49 : decode cX5_count 49 = .ok (.if_icmp .ne 13, 3) := by decide +kernel
theorem dX5_count_52 : decode cX5_count 52 = .ok (.aload_n 0, 1) := by decide +kernel
theorem dX5_count_53 : decode cX5_count 53 = .ok (.iload 4, 2) := by decide +kernel
theorem dX5_count_55 : decode cX5_count 55 = .ok (.iconst 3, 1) := by decide +kernel
theorem dX5_count_56 : decode cX5_count 56 = .ok (.invokevirtual 55, 3) := by decide +kernel
theorem dX5_count_59 : decode cX5_count 59 = .ok (.goto 33, 3) := by decide +kernel
theorem dX5_count_62 : decode cX5_count 62 = .ok (.iload_n 1, 1) := by decide +kernel
theorem dX5_count_63 : decode cX5_count 63 = .ok (.iconst 5, 1) := by decide +kernel
theorem dX5_count_64 : decode cX5_count 64 = .ok (.if_icmp .ne 22, 3) := by decide +kernel
theorem dX5_count_67 : decode cX5_count 67 = .ok (.aload_n 0, 1) := by decide +kernel
theorem dX5_count_68 : decode cX5_count 68 = .ok (.getfield 22, 3) := by decide +kernel
theorem dX5_count_71 : decode cX5_count 71 = .ok (.iload 4, 2) := by decide +kernel
theorem dX5_count_73 : decode cX5_count 73 = .ok (.iaload, 1) := by decide +kernel
theorem dX5_count_74 : decode cX5_count 74 = .ok (.iconst (-1), 1) := by decide +kernel
theorem dX5_count_75 : decode cX5_count 75 = .ok (.if_icmp .ne 7, 3) := by decide +kernel
theorem dX5_count_78 : decode cX5_count 78 = .ok (.iconst 1, 1) := by decide +kernel
theorem dX5_count_79 : decode cX5_count 79 = .ok (.goto 13, 3) := by decide +kernel
theorem dX5_count_82 : decode cX5_count 82 = .ok (.iconst 0, 1) := by decide +kernel
theorem dX5_count_83 : decode cX5_count 83 = .ok (.goto 9, 3) := by decide +kernel
theorem dX5_count_86 : decode cX5_count 86 = .ok (.aload_n 0, 1) := by decide +kernel
theorem dX5_count_87 : decode cX5_count 87 = .ok (.iload 4, 2) := by decide +kernel
theorem dX5_count_89 : decode cX5_count 89 = .ok (.invokevirtual 79, 3) := by decide +kernel
theorem dX5_count_92 : decode cX5_count 92 = .ok (.iadd, 1) := by decide +kernel
theorem dX5_count_93 : decode cX5_count 93 = .ok (.istore_n 3, 1) := by decide +kernel
theorem dX5_count_94 : decode cX5_count 94 = .ok (.iinc 4 1, 3) := by decide +kernel
theorem dX5_count_97 : decode cX5_count 97 = .ok (.goto (-62), 3) := by decide +kernel
theorem dX5_count_100 : decode cX5_count 100 = .ok (.iload_n 1, 1) := by decide +kernel
theorem dX5_count_101 : decode cX5_count 101 = .ok (.bipush 7, 2) := by decide +kernel
theorem dX5_count_103 : decode cX5_count 103 = .ok (.if_icmp .ge 7, 3) := by decide +kernel
theorem dX5_count_106 : decode cX5_count 106 = .ok (.iload_n 3, 1) := by decide +kernel
theorem dX5_count_107 : decode cX5_count 107 = .ok (.goto 35, 3) := by decide +kernel
theorem dX5_count_110 : decode cX5_count 110 = .ok (.iload_n 1, 1) := by decide +kernel
theorem dX5_count_111 : decode cX5_count 111 = .ok (.bipush 7, 2) := by decide +kernel
theorem dX5_count_113 : decode cX5_count 113 = .ok (.if_icmp .ne 7, 3) := by decide +kernel
theorem dX5_count_116 : decode cX5_count 116 = .ok (.iload_n 2, 1) := by decide +kernel
theorem dX5_count_117 : decode cX5_count 117 = .ok (.goto 25, 3) := by decide +kernel
theorem dX5_count_120 : decode cX5_count 120 = .ok (.iload_n 1, 1) := by decide +kernel
theorem dX5_count_121 : decode cX5_count 121 = .ok (.bipush 8, 2) := by decide +kernel
theorem dX5_count_123 : decode cX5_count 123 = .ok (.if_icmp .ne 10, 3) := by decide +kernel
theorem dX5_count_126 : decode cX5_count 126 = .ok (.aload_n 0, 1) := by decide +kernel
theorem dX5_count_127 : decode cX5_count 127 = .ok (.invokevirtual 92, 3) := by decide +kernel
theorem dX5_count_130 : decode cX5_count 130 = .ok (.goto 12, 3) := by decide +kernel
theorem dX5_count_133 : decode cX5_count 133 = .ok (.iload_n 2, 1) := by decide +kernel
theorem dX5_count_134 : decode cX5_count 134 = .ok (.ifCond .ne 7, 3) := by decide +kernel
theorem dX5_count_137 : decode cX5_count 137 = .ok (.iconst 1, 1) := by decide +kernel
theorem dX5_count_138 : decode cX5_count 138 = .ok (.goto 4, 3) := by decide +kernel
theorem dX5_count_141 : decode cX5_count 141 = .ok (.iconst 0, 1) := by decide +kernel
theorem dX5_count_142 : decode cX5_count 142 = .ok (.ireturn, 1) := by decide +kernel
set_option maxRecDepth 20000 in
theorem ggX5_property_X5_of : GoodIn wsX5_property wsX5_of := goodIn_r _ [9, 1, 22, 23, 24, 25, 26, 27, 28, 29, 30, 31, 32, 33] (by decide +kernel) (by decide +kernel)
set_option maxRecDepth 20000 in
theorem gX5_property_X5_of : GoodIn wsX5_property (wsV RX5 55 RX5 yX5_of wsX5_of) := goodIn_app (goodIn_of _ (by decide +kernel)) ggX5_property_X5_of
set_option maxRecDepth 20000 in
theorem ggX5_property_X5_areNeighbours : GoodIn wsX5_property wsX5_areNeighbours := goodIn_r _ [13, 1, 22, 23, 24, 25, 26, 27, 28, 29, 30, 31, 32, 33] (by decide +kernel) (by decide +kernel)
set_option maxRecDepth 20000 in
theorem gX5_property_X5_areNeighbours : GoodIn wsX5_property (wsV RX5 63 RX5 yX5_areNeighbours wsX5_areNeighbours) := goodIn_app (goodIn_of _ (by decide +kernel)) ggX5_property_X5_areNeighbours
set_option maxRecDepth 20000 in
theorem ggX5_property_X5_pores : GoodIn wsX5_property wsX5_pores := goodIn_r _ [17, 2, 4, 22, 23, 24, 25, 26, 27, 28, 29, 30, 31, 32, 33] (by decide +kernel) (by decide +kernel)
set_option maxRecDepth 20000 in
theorem gX5_property_X5_pores : GoodIn wsX5_property (wsV RX5 79 RX5 yX5_pores wsX5_pores) := goodIn_app (goodIn_of _ (by decide +kernel)) ggX5_property_X5_pores
set_option maxRecDepth 20000 in
theorem ggX5_property_X5_excess : GoodIn wsX5_property wsX5_excess := goodIn_r _ [21, 1, 5, 6, 7, 8, 9, 14, 15, 16, 17, 2, 4, 22, 23, 24, 25, 26, 27, 28, 29, 30, 31, 32, 33] (by decide +kernel) (by decide +kernel)
set_option maxRecDepth 20000 in
theorem gX5_property_X5_excess : GoodIn wsX5_property (wsV RX5 85 RX5 yX5_excess wsX5_excess) := goodIn_app (goodIn_of _ (by decide +kernel)) ggX5_property_X5_excess
theorem dX5_property_0 : decode cX5_property 0 = .ok (.iload_n 2, 1) := by decide +kernel
theorem dX5_property_1 : decode cX5_property 1 = .ok (.iconst 4, 1) := by decide +kernel
theorem dX5_property_2 : decode cX5_property 2 = .ok (.if_icmp .ge 10, 3) := by decide +kernel
theorem dX5_property_5 : decode cX5_property 5 = .ok (.aload_n 0, 1) := by decide +kernel
theorem dX5_property_6 : decode cX5_property 6 = .ok (.iload_n 1, 1) := by decide +kernel
theorem dX5_property_7 : decode cX5_property 7 = .ok (.iload_n 2, 1) := by decide +kernel
theorem dX5_property_8 : decode cX5_property 8 = .ok (.invokevirtual 55, 3) := by decide +kernel
theorem dX5_property_11 : decode cX5_property 11 = .ok (.ireturn, 1) := by decide +kernel
theorem dX5_property_12 : decode cX5_property 12 = .ok (.iconst 0, 1) := by decide +kernel
theorem dX5_property_13 : decode cX5_property 13 = .ok (.istore_n 3, 1) := by decide +kernel
theorem dX5_property_14 : decode cX5_property 14 = .ok (.iconst 0, 1) := by decide +kernel
theorem dX5_property_15 : decode cX5_property 15 = .ok (.istore 4, 2) := by decide +kernel
theorem dX5_property_17 : decode cX5_property 17 = .ok (.iload 4, 2) := by decide +kernel
theorem dX5_property_19 : decode cX5_property 19 = .ok (.aload_n 0, 1) := by decide +kernel
theorem dX5_property_20 : decode cX5_property 20 = .ok (.getfield 7, 3) := by decide +kernel
theorem dX5_property_23 : decode cX5_property 23 = .ok (.iconst 0, 1) := by decide +kernel
theorem dX5_property_24 : decode cX5_property 24 = .ok (.iaload, 1) := by decide +kernel
theorem dX5_property_25 : decode cX5_property 25 = .ok (.if_icmp .ge 52, 3) := by decide +kernel
theorem dX5_property_28 : decode cX5_property 28 = .ok (.iload_n 3, 1) := by decide +kernel
theorem dX5_property_29 : decode cX5_property 29 = .ok (.iload_n 2, 1) := by decide +kernel
theorem dX5_property_30 : decode cX5_property 30 = .ok (.bipush 9, 2) := by decide +kernel
theorem dX5_property_32 : decode cX5_property 32 = .ok (.if_icmp .ne 22, 3) := by decide +kernel
theorem dX5_property_35 : decode cX5_property 35 = .ok (.aload_n 0, 1) := by decide +kernel
theorem dX5_property_36 : decode cX5_property 36 = .ok (.getfield 22, 3) := by decide +kernel
theorem dX5_property_39 : decode cX5_property 39 = .ok (.iload 4, 2) := by decide +kernel
theorem dX5_property_41 : decode cX5_property 41 = .ok (.iaload, 1) := by decide +kernel
theorem dX5_property_42 : decode cX5_property 42 = .ok (.iload_n 1, 1) := by decide +kernel
theorem dX5_property_43 : decode cX5_property 43 = .ok (.if_icmp .ne 7, 3) := by decide +kernel
theorem dX5_property_46 : decode cX5_property 46 = .ok (.iconst 1, 1) := by decide +kernel
theorem dX5_property_47 : decode cX5_property 47 = .ok (.goto 22, 3) := by decide +kernel
theorem dX5_property_50 : decode cX5_property 50 = .ok (.iconst 0, 1) := by decide +kernel
theorem dX5_property_51 : decode cX5_property 51 = .ok (.goto 18, 3) := by decide +kernel
theorem dX5_property_54 : decode cX5_property 54 = .ok (.aload_n 0, 1) := by decide +kernel
theorem dX5_property_55 : decode cX5_property 55 = .ok (.iload_n 1, 1) := by decide +kernel
theorem dX5_property_56 : decode cX5_property 56 = .ok (.iload 4, 2) := by decide +kernel
theorem dX5_property_58 : decode cX5_property 58 = .ok (.invokevirtual 63, 3) := by decide +kernel
theorem dX5_property_61 : decode cX5_property 61 = .ok (.ifCond .eq 7, 3) := by decide +kernel
theorem dX5_property_64 : decode cX5_property 64 = .ok (.iconst 1, 1) := by decide +kernel
theorem dX5_property_65 : decode cX5_property 65 = .ok (.goto 4, 3) := by decide +kernel
theorem dX5_property_68 : decode cX5_property 68 = .ok (.iconst 0, 1) := by decide +kernel
theorem dX5_property_69 : decode cX5_property 69 = .ok (.iadd, 1) := by decide +kernel
theorem dX5_property_70 : decode cX5_property 70 = .ok (.istore_n 3, 1) := by decide +kernel
theorem dX5_property_71 : decode cX5_property 71 = .ok (.iinc 4 1, 3) := by decide +kernel
theorem dX5_property_74 : decode cX5_property 74 = .ok (.goto (-57), 3) := by decide +kernel
theorem dX5_property_77 : decode cX5_property 77 = .ok (.iload_n 2, 1) := by decide +kernel
theorem dX5_property_78 : decode cX5_property 78 = .ok (.iconst 4, 1) := by decide +kernel
theorem dX5_property_79 : decode cX5_property 79 = .ok (.if_icmp .ne 12, 3) := by decide +kernel
theorem dX5_property_82 : decode cX5_property 82 = .ok (.aload_n 0, 1) := by decide +kernel
theorem dX5_property_83 : decode cX5_property 83 = .ok (.getfield 16, 3) := by decide +kernel
theorem dX5_property_86 : decode cX5_property 86 = .ok (.iload_n 1, 1) := by decide +kernel
theorem dX5_property_87 : decode cX5_property 87 = .ok (.iaload, 1) := by decide +kernel
theorem dX5_property_88 : decode cX5_property 88 = .ok (.goto 61, 3) := by decide +kernel
theorem dX5_property_91 : decode cX5_property 91 = .ok (.iload_n 2, 1) := by decide +kernel
theorem dX5_property_92 : decode cX5_property 92 = .ok (.iconst 5, 1) := by decide +kernel
theorem dX5_property_93 : decode cX5_property 93 = .ok (.if_icmp .ne 12, 3) := by decide +kernel
theorem dX5_property_96 : decode cX5_property 96 = .ok (.aload_n 0, 1) := by decide +kernel
theorem dX5_property_97 : decode cX5_property 97 = .ok (.getfield 19, 3) := by decide +kernel
theorem dX5_property_100 : decode cX5_property 100 = .ok (.iload_n 1, 1) := by decide +kernel
theorem dX5_property_101 : decode cX5_property 101 = .ok (.iaload, 1) := by decide +kernel
theorem dX5_property_102 : decode cX5_property 102 = .ok (.goto 47, 3) := by decide +kernel
theorem dX5_property_105 : decode cX5_property 105 = .ok (.iload_n 2, 1) := by decide +kernel
theorem dX5_property_106 : decode cX5_property 106 = .ok (.bipush 6, 2) := by decide +kernel
theorem dX5_property_108 : decode cX5_property 108 = .ok (.if_icmp .ne 11, 3) := by decide +kernel
theorem dX5_property_111 : decode cX5_property 111 = .ok (.aload_n 0, 1) := by decide +kernel
theorem dX5_property_112 : decode cX5_property 112 = .ok (.iload_n 1, 1) := by decide +kernel
theorem dX5_property_113 : decode cX5_property 113 = .ok (.invokevirtual 79, 3) := by decide +kernel
theorem dX5_property_116 : decode cX5_property 116 = .ok (.goto 33, 3) := by decide +kernel
theorem dX5_property_119 : decode cX5_property 119 = .ok (.iload_n 2, 1) := by decide +kernel
theorem dX5_property_120 : decode cX5_property 120 = .ok (.bipush 7, 2) := by decide +kernel
theorem dX5_property_122 : decode cX5_property 122 = .ok (.if_icmp .ne 11, 3) := by decide +kernel
theorem dX5_property_125 : decode cX5_property 125 = .ok (.aload_n 0, 1) := by decide +kernel
theorem dX5_property_126 : decode cX5_property 126 = .ok (.iload_n 1, 1) := by decide +kernel
theorem dX5_property_127 : decode cX5_property 127 = .ok (.invokevirtual 85, 3) := by decide +kernel
theorem dX5_property_130 : decode cX5_property 130 = .ok (.goto 19, 3) := by decide +kernel
theorem dX5_property_133 : decode cX5_property 133 = .ok (.iload_n 2, 1) := by decide +kernel
theorem dX5_property_134 : decode cX5_property 134 = .ok (.bipush 8, 2) := by decide +kernel
theorem dX5_property_136 : decode cX5_property 136 = .ok (.if_icmp .ne 12, 3) := by decide +kernel
theorem dX5_property_139 : decode cX5_property 139 = .ok (.aload_n 0, 1) := by decide +kernel
theorem dX5_property_140 : decode cX5_property 140 = .ok (.getfield 22, 3) := by decide +kernel
theorem dX5_property_143 : decode cX5_property 143 = .ok (.iload_n 1, 1) := by decide +kernel
theorem dX5_property_144 : decode cX5_property 144 = .ok (.iaload, 1) := by decide +kernel
theorem dX5_property_145 : decode cX5_property 145 = .ok (.goto 4, 3) := by decide +kernel
theorem dX5_property_148 : decode cX5_property 148 = .ok (.iload_n 3, 1) := by decide +kernel
theorem dX5_property_149 : decode cX5_property 149 = .ok (.ireturn, 1) := by decide +kernel
set_option maxRecDepth 20000 in
theorem ggX5_section_X5_isSection : GoodIn wsX5_section wsX5_isSection := goodIn_r _ [5, 6, 7, 8, 4, 9, 46, 47, 48, 49, 50, 51, 52, 53, 54, 55, 56, 57] (by decide +kernel) (by decide +kernel)
set_option maxRecDepth 20000 in
theorem gX5_section_X5_isSection : GoodIn wsX5_section (wsV RX5 51 RX5 yX5_isSection wsX5_isSection) := goodIn_app (goodIn_of _ (by decide +kernel)) ggX5_section_X5_isSection
set_option maxRecDepth 20000 in
theorem ggX5_section_X5_in : GoodIn wsX5_section wsX5_in := goodIn_r _ [9] (by decide +kernel) (by decide +kernel)
set_option maxRecDepth 20000 in
theorem gX5_section_X5_in : GoodIn wsX5_section (va_wsS RX5 36 yX5_in wsX5_in) := goodIn_app (goodIn_of _ (by decide +kernel)) ggX5_section_X5_in
set_option maxRecDepth 20000 in
theorem ggX5_section_X5_freezes : GoodIn wsX5_section wsX5_freezes := goodIn_r _ [13, 6, 14, 15, 16, 17, 18, 19, 20, 4, 21, 22, 23, 24, 25, 26, 27, 28, 29, 30, 31, 32, 33, 46, 47, 48, 49, 50, 51, 52, 53, 54, 55, 56, 57] (by decide +kernel) (by decide +kernel)
set_option maxRecDepth 20000 in
theorem gX5_section_X5_freezes : GoodIn wsX5_section (wsV RX5 82 RX5 yX5_freezes wsX5_freezes) := goodIn_app (goodIn_of _ (by decide +kernel)) ggX5_section_X5_freezes
set_option maxRecDepth 20000 in
theorem ggX5_section_X5_property : GoodIn wsX5_section wsX5_property := goodIn_r _ [37, 6, 17, 14, 16, 22, 23, 24, 4, 25, 30, 31, 32, 33, 38, 39, 40, 41, 42, 43, 44, 45, 46, 47, 48, 49, 50, 51, 52, 53, 54, 55, 56, 57] (by decide +kernel) (by decide +kernel)
set_option maxRecDepth 20000 in
theorem gX5_section_X5_property : GoodIn wsX5_section (wsV RX5 95 RX5 yX5_property wsX5_property) := goodIn_app (goodIn_of _ (by decide +kernel)) ggX5_section_X5_property
theorem dX5_section_0 : decode cX5_section 0 = .ok (.aload_n 0, 1) := by decide +kernel
theorem dX5_section_1 : decode cX5_section 1 = .ok (.iload_n 1, 1) := by decide +kernel
theorem dX5_section_2 : decode cX5_section 2 = .ok (.invokevirtual 51, 3) := by decide +kernel
theorem dX5_section_5 : decode cX5_section 5 = .ok (.ifCond .ne 6, 3) := by decide +kernel
theorem dX5_section_8 : decode cX5_section 8 = .ok (.bipush (-2), 2) := by decide +kernel
theorem dX5_section_10 : decode cX5_section 10 = .ok (.ireturn, 1) := by decide +kernel
theorem dX5_section_11 : decode cX5_section 11 = .ok (.iload_n 2, 1) := by decide +kernel
theorem dX5_section_12 : decode cX5_section 12 = .ok (.iconst 0, 1) := by decide +kernel
theorem dX5_section_13 : decode cX5_section 13 = .ok (.bipush 10, 2) := by decide +kernel
theorem dX5_section_15 : decode cX5_section 15 = .ok (.invokestatic 36, 3) := by decide +kernel
theorem dX5_section_18 : decode cX5_section 18 = .ok (.ifCond .ne 6, 3) := by decide +kernel
theorem dX5_section_21 : decode cX5_section 21 = .ok (.bipush (-3), 2) := by decide +kernel
theorem dX5_section_23 : decode cX5_section 23 = .ok (.ireturn, 1) := by decide +kernel
theorem dX5_section_24 : decode cX5_section 24 = .ok (.aload_n 0, 1) := by decide +kernel
theorem dX5_section_25 : decode cX5_section 25 = .ok (.invokevirtual 82, 3) := by decide +kernel
theorem dX5_section_28 : decode cX5_section 28 = .ok (.aload_n 0, 1) := by decide +kernel
theorem dX5_section_29 : decode cX5_section 29 = .ok (.iload_n 1, 1) := by decide +kernel
theorem dX5_section_30 : decode cX5_section 30 = .ok (.iload_n 2, 1) := by decide +kernel
theorem dX5_section_31 : decode cX5_section 31 = .ok (.invokevirtual 95, 3) := by decide +kernel
theorem dX5_section_34 : decode cX5_section 34 = .ok (.ireturn, 1) := by decide +kernel
set_option maxRecDepth 20000 in
theorem ggX5_modulus_X5_isSection : GoodIn wsX5_modulus wsX5_isSection := goodIn_r _ [5, 6, 7, 8, 4, 9, 14, 15, 16, 17, 18, 19, 20, 21, 22, 23, 24, 25] (by decide +kernel) (by decide +kernel)
set_option maxRecDepth 20000 in
theorem gX5_modulus_X5_isSection : GoodIn wsX5_modulus (wsV RX5 51 RX5 yX5_isSection wsX5_isSection) := goodIn_app (goodIn_of _ (by decide +kernel)) ggX5_modulus_X5_isSection
set_option maxRecDepth 20000 in
theorem ggX5_modulus_X5_of : GoodIn wsX5_modulus wsX5_of := goodIn_r _ [13, 6, 14, 15, 16, 17, 18, 19, 20, 21, 22, 23, 24, 25] (by decide +kernel) (by decide +kernel)
set_option maxRecDepth 20000 in
theorem gX5_modulus_X5_of : GoodIn wsX5_modulus (wsV RX5 55 RX5 yX5_of wsX5_of) := goodIn_app (goodIn_of _ (by decide +kernel)) ggX5_modulus_X5_of
theorem dX5_modulus_0 : decode cX5_modulus 0 = .ok (.aload_n 0, 1) := by decide +kernel
theorem dX5_modulus_1 : decode cX5_modulus 1 = .ok (.iload_n 1, 1) := by decide +kernel
theorem dX5_modulus_2 : decode cX5_modulus 2 = .ok (.invokevirtual 51, 3) := by decide +kernel
theorem dX5_modulus_5 : decode cX5_modulus 5 = .ok (.ifCond .ne 6, 3) := by decide +kernel
theorem dX5_modulus_8 : decode cX5_modulus 8 = .ok (.bipush (-2), 2) := by decide +kernel
theorem dX5_modulus_10 : decode cX5_modulus 10 = .ok (.ireturn, 1) := by decide +kernel
theorem dX5_modulus_11 : decode cX5_modulus 11 = .ok (.aload_n 0, 1) := by decide +kernel
theorem dX5_modulus_12 : decode cX5_modulus 12 = .ok (.iload_n 1, 1) := by decide +kernel
theorem dX5_modulus_13 : decode cX5_modulus 13 = .ok (.iconst 0, 1) := by decide +kernel
theorem dX5_modulus_14 : decode cX5_modulus 14 = .ok (.invokevirtual 55, 3) := by decide +kernel
theorem dX5_modulus_17 : decode cX5_modulus 17 = .ok (.istore_n 3, 1) := by decide +kernel
theorem dX5_modulus_18 : decode cX5_modulus 18 = .ok (.aload_n 0, 1) := by decide +kernel
theorem dX5_modulus_19 : decode cX5_modulus 19 = .ok (.iload_n 1, 1) := by decide +kernel
theorem dX5_modulus_20 : decode cX5_modulus 20 = .ok (.iconst 1, 1) := by decide +kernel
theorem dX5_modulus_21 : decode cX5_modulus 21 = .ok (.invokevirtual 55, 3) := by decide +kernel
theorem dX5_modulus_24 : decode cX5_modulus 24 = .ok (.aload_n 0, 1) := by decide +kernel
theorem dX5_modulus_25 : decode cX5_modulus 25 = .ok (.iload_n 1, 1) := by decide +kernel
theorem dX5_modulus_26 : decode cX5_modulus 26 = .ok (.iconst 2, 1) := by decide +kernel
theorem dX5_modulus_27 : decode cX5_modulus 27 = .ok (.invokevirtual 55, 3) := by decide +kernel
theorem dX5_modulus_30 : decode cX5_modulus 30 = .ok (.iadd, 1) := by decide +kernel
theorem dX5_modulus_31 : decode cX5_modulus 31 = .ok (.istore 4, 2) := by decide +kernel
theorem dX5_modulus_33 : decode cX5_modulus 33 = .ok (.iload_n 3, 1) := by decide +kernel
theorem dX5_modulus_34 : decode cX5_modulus 34 = .ok (.istore 5, 2) := by decide +kernel
theorem dX5_modulus_36 : decode cX5_modulus 36 = .ok (.iload 4, 2) := by decide +kernel
theorem dX5_modulus_38 : decode cX5_modulus 38 = .ok (.istore 6, 2) := by decide +kernel
theorem dX5_modulus_40 : decode cX5_modulus 40 = .ok (.iload 6, 2) := by decide +kernel
theorem dX5_modulus_42 : decode cX5_modulus 42 = .ok (.ifCond .le 21, 3) := by decide +kernel
theorem dX5_modulus_45 : decode cX5_modulus 45 = .ok (.iload 5, 2) := by decide +kernel
theorem dX5_modulus_47 : decode cX5_modulus 47 = .ok (.iload 6, 2) := by decide +kernel
theorem dX5_modulus_49 : decode cX5_modulus 49 = .ok (.irem, 1) := by decide +kernel
theorem dX5_modulus_50 : decode cX5_modulus 50 = .ok (.istore 7, 2) := by decide +kernel
theorem dX5_modulus_52 : decode cX5_modulus 52 = .ok (.iload 6, 2) := by decide +kernel
theorem dX5_modulus_54 : decode cX5_modulus 54 = .ok (.istore 5, 2) := by decide +kernel
theorem dX5_modulus_56 : decode cX5_modulus 56 = .ok (.iload 7, 2) := by decide +kernel
theorem dX5_modulus_58 : decode cX5_modulus 58 = .ok (.istore 6, 2) := by decide +kernel
theorem dX5_modulus_60 : decode cX5_modulus 60 = .ok (.goto (-20), 3) := by decide +kernel
theorem dX5_modulus_63 : decode cX5_modulus 63 = .ok (.iload_n 2, 1) := by decide +kernel
theorem dX5_modulus_64 : decode cX5_modulus 64 = .ok (.ifCond .eq 11, 3) := by decide +kernel
theorem dX5_modulus_67 : decode cX5_modulus 67 = .ok (.iload 4, 2) := by decide +kernel
theorem dX5_modulus_69 : decode cX5_modulus 69 = .ok (.iload 5, 2) := by decide +kernel
theorem dX5_modulus_71 : decode cX5_modulus 71 = .ok (.idiv, 1) := by decide +kernel
theorem dX5_modulus_72 : decode cX5_modulus 72 = .ok (.goto 7, 3) := by decide +kernel
theorem dX5_modulus_75 : decode cX5_modulus 75 = .ok (.iload_n 3, 1) := by decide +kernel
theorem dX5_modulus_76 : decode cX5_modulus 76 = .ok (.iload 5, 2) := by decide +kernel
theorem dX5_modulus_78 : decode cX5_modulus 78 = .ok (.idiv, 1) := by decide +kernel
theorem dX5_modulus_79 : decode cX5_modulus 79 = .ok (.ireturn, 1) := by decide +kernel
set_option maxRecDepth 20000 in
theorem ggX5_joint_X5_isJoint : GoodIn wsX5_joint wsX5_isJoint := goodIn_r _ [6, 1, 7, 8, 5, 9, 10, 11, 12, 13, 14, 15, 16, 17, 18, 19, 20, 21] (by decide +kernel) (by decide +kernel)
set_option maxRecDepth 20000 in
theorem gX5_joint_X5_isJoint : GoodIn wsX5_joint (wsV RX5 69 RX5 yX5_isJoint wsX5_isJoint) := goodIn_app (goodIn_of _ (by decide +kernel)) ggX5_joint_X5_isJoint
set_option maxRecDepth 20000 in
theorem ggX5_joint_X5_in : GoodIn wsX5_joint wsX5_in := goodIn_r _ [9] (by decide +kernel) (by decide +kernel)
set_option maxRecDepth 20000 in
theorem gX5_joint_X5_in : GoodIn wsX5_joint (va_wsS RX5 36 yX5_in wsX5_in) := goodIn_app (goodIn_of _ (by decide +kernel)) ggX5_joint_X5_in
theorem dX5_joint_0 : decode cX5_joint 0 = .ok (.aload_n 0, 1) := by decide +kernel
theorem dX5_joint_1 : decode cX5_joint 1 = .ok (.iload_n 1, 1) := by decide +kernel
theorem dX5_joint_2 : decode cX5_joint 2 = .ok (.invokevirtual 69, 3) := by decide +kernel
theorem dX5_joint_5 : decode cX5_joint 5 = .ok (.ifCond .ne 6, 3) := by decide +kernel
theorem dX5_joint_8 : decode cX5_joint 8 = .ok (.bipush (-2), 2) := by decide +kernel
theorem dX5_joint_10 : decode cX5_joint 10 = .ok (.ireturn, 1) := by decide +kernel
theorem dX5_joint_11 : decode cX5_joint 11 = .ok (.iload_n 2, 1) := by decide +kernel
theorem dX5_joint_12 : decode cX5_joint 12 = .ok (.iconst 0, 1) := by decide +kernel
theorem dX5_joint_13 : decode cX5_joint 13 = .ok (.iconst 1, 1) := by decide +kernel
theorem dX5_joint_14 : decode cX5_joint 14 = .ok (.invokestatic 36, 3) := by decide +kernel
theorem dX5_joint_17 : decode cX5_joint 17 = .ok (.ifCond .eq 19, 3) := by decide +kernel
theorem dX5_joint_20 : decode cX5_joint 20 = .ok (.aload_n 0, 1) := by decide +kernel
theorem dX5_joint_21 : decode cX5_joint 21 = .ok (.getfield 7, 3) := by decide +kernel
theorem dX5_joint_24 : decode cX5_joint 24 = .ok (.bipush 52, 2) := by decide +kernel
theorem dX5_joint_26 : decode cX5_joint 26 = .ok (.iconst 2, 1) := by decide +kernel
theorem dX5_joint_27 : decode cX5_joint 27 = .ok (.iload_n 1, 1) := by decide +kernel
theorem dX5_joint_28 : decode cX5_joint 28 = .ok (.imul, 1) := by decide +kernel
theorem dX5_joint_29 : decode cX5_joint 29 = .ok (.iadd, 1) := by decide +kernel
theorem dX5_joint_30 : decode cX5_joint 30 = .ok (.iload_n 2, 1) := by decide +kernel
theorem dX5_joint_31 : decode cX5_joint 31 = .ok (.iadd, 1) := by decide +kernel
theorem dX5_joint_32 : decode cX5_joint 32 = .ok (.iaload, 1) := by decide +kernel
theorem dX5_joint_33 : decode cX5_joint 33 = .ok (.goto 5, 3) := by decide +kernel
theorem dX5_joint_36 : decode cX5_joint 36 = .ok (.bipush (-3), 2) := by decide +kernel
theorem dX5_joint_38 : decode cX5_joint 38 = .ok (.ireturn, 1) := by decide +kernel
set_option maxRecDepth 20000 in
theorem ggX5_atStep_X5_freezes : GoodIn wsX5_atStep wsX5_freezes := goodIn_r _ [7, 1, 8, 2, 9, 10, 11, 12, 13, 6, 14, 15, 16, 17, 18, 19, 20, 21, 22, 23, 24, 25, 26, 27, 28, 29, 30, 31, 32, 33, 34, 35, 36, 37, 38] (by decide +kernel) (by decide +kernel)
set_option maxRecDepth 20000 in
theorem gX5_atStep_X5_freezes : GoodIn wsX5_atStep (wsV RX5 82 RX5 yX5_freezes wsX5_freezes) := goodIn_app (goodIn_of _ (by decide +kernel)) ggX5_atStep_X5_freezes
theorem dX5_atStep_0 : decode cX5_atStep 0 = .ok (.iload_n 1, 1) := by decide +kernel
theorem dX5_atStep_1 : decode cX5_atStep 1 = .ok (.ifCond .ge 6, 3) := by decide +kernel
theorem dX5_atStep_4 : decode cX5_atStep 4 = .ok (.bipush (-3), 2) := by decide +kernel
theorem dX5_atStep_6 : decode cX5_atStep 6 = .ok (.ireturn, 1) := by decide +kernel
theorem dX5_atStep_7 : decode cX5_atStep 7 = .ok (.aload_n 0, 1) := by decide +kernel
theorem dX5_atStep_8 : decode cX5_atStep 8 = .ok (.invokevirtual 82, 3) := by decide +kernel
theorem dX5_atStep_11 : decode cX5_atStep 11 = .ok (.iload_n 1, 1) := by decide +kernel
theorem dX5_atStep_12 : decode cX5_atStep 12 = .ok (.aload_n 0, 1) := by decide +kernel
theorem dX5_atStep_13 : decode cX5_atStep 13 = .ok (.getfield 7, 3) := by decide +kernel
theorem dX5_atStep_16 : decode cX5_atStep 16 = .ok (.iconst 0, 1) := by decide +kernel
theorem dX5_atStep_17 : decode cX5_atStep 17 = .ok (.iaload, 1) := by decide +kernel
theorem dX5_atStep_18 : decode cX5_atStep 18 = .ok (.if_icmp .ge 12, 3) := by decide +kernel
theorem dX5_atStep_21 : decode cX5_atStep 21 = .ok (.aload_n 0, 1) := by decide +kernel
theorem dX5_atStep_22 : decode cX5_atStep 22 = .ok (.getfield 13, 3) := by decide +kernel
theorem dX5_atStep_25 : decode cX5_atStep 25 = .ok (.iload_n 1, 1) := by decide +kernel
theorem dX5_atStep_26 : decode cX5_atStep 26 = .ok (.iaload, 1) := by decide +kernel
theorem dX5_atStep_27 : decode cX5_atStep 27 = .ok (.goto 4, 3) := by decide +kernel
theorem dX5_atStep_30 : decode cX5_atStep 30 = .ok (.iconst (-1), 1) := by decide +kernel
theorem dX5_atStep_31 : decode cX5_atStep 31 = .ok (.ireturn, 1) := by decide +kernel
set_option maxRecDepth 20000 in
theorem ggX5_way_X5_isSection : GoodIn wsX5_way wsX5_isSection := goodIn_r _ [6, 7, 8, 9, 5, 10, 34, 35, 36, 37, 38, 39, 40, 41, 42, 43, 44, 45] (by decide +kernel) (by decide +kernel)
set_option maxRecDepth 20000 in
theorem gX5_way_X5_isSection : GoodIn wsX5_way (wsV RX5 51 RX5 yX5_isSection wsX5_isSection) := goodIn_app (goodIn_of _ (by decide +kernel)) ggX5_way_X5_isSection
set_option maxRecDepth 20000 in
theorem ggX5_way_X5_freezes : GoodIn wsX5_way wsX5_freezes := goodIn_r _ [14, 7, 15, 16, 17, 1, 18, 19, 20, 5, 21, 22, 23, 24, 25, 26, 27, 28, 29, 30, 31, 32, 33, 34, 35, 36, 37, 38, 39, 40, 41, 42, 43, 44, 45] (by decide +kernel) (by decide +kernel)
set_option maxRecDepth 20000 in
theorem gX5_way_X5_freezes : GoodIn wsX5_way (wsV RX5 82 RX5 yX5_freezes wsX5_freezes) := goodIn_app (goodIn_of _ (by decide +kernel)) ggX5_way_X5_freezes
theorem dX5_way_0 : decode cX5_way 0 = .ok (.aload_n 0, 1) := by decide +kernel
theorem dX5_way_1 : decode cX5_way 1 = .ok (.iload_n 1, 1) := by decide +kernel
theorem dX5_way_2 : decode cX5_way 2 = .ok (.invokevirtual 51, 3) := by decide +kernel
theorem dX5_way_5 : decode cX5_way 5 = .ok (.ifCond .ne 6, 3) := by decide +kernel
theorem dX5_way_8 : decode cX5_way 8 = .ok (.bipush (-2), 2) := by decide +kernel
theorem dX5_way_10 : decode cX5_way 10 = .ok (.ireturn, 1) := by decide +kernel
theorem dX5_way_11 : decode cX5_way 11 = .ok (.iload_n 2, 1) := by decide +kernel
theorem dX5_way_12 : decode cX5_way 12 = .ok (.ifCond .ge 6, 3) := by decide +kernel
theorem dX5_way_15 : decode cX5_way 15 = .ok (.bipush (-3), 2) := by decide +kernel
theorem dX5_way_17 : decode cX5_way 17 = .ok (.ireturn, 1) := by decide +kernel
theorem dX5_way_18 : decode cX5_way 18 = .ok (.aload_n 0, 1) := by decide +kernel
theorem dX5_way_19 : decode cX5_way 19 = .ok (.invokevirtual 82, 3) := by decide +kernel
theorem dX5_way_22 : decode cX5_way 22 = .ok (.iload_n 1, 1) := by decide +kernel
theorem dX5_way_23 : decode cX5_way 23 = .ok (.istore_n 3, 1) := by decide +kernel
theorem dX5_way_24 : decode cX5_way 24 = .ok (.iconst 0, 1) := by decide +kernel
theorem dX5_way_25 : decode cX5_way 25 = .ok (.istore 4, 2) := by decide +kernel
theorem dX5_way_27 : decode cX5_way 27 = .ok (.iload 4, 2) := by decide +kernel
theorem dX5_way_29 : decode cX5_way 29 = .ok (.iload_n 2, 1) := by decide +kernel
theorem dX5_way_30 : decode cX5_way 30 = .ok (.if_icmp .ge 21, 3) := by decide +kernel
theorem dX5_way_33 : decode cX5_way 33 = .ok (.iload_n 3, 1) := by decide +kernel
theorem dX5_way_34 : decode cX5_way 34 = .ok (.iconst (-1), 1) := by decide +kernel
theorem dX5_way_35 : decode cX5_way 35 = .ok (.if_icmp .eq 16, 3) := by decide +kernel
theorem dX5_way_38 : decode cX5_way 38 = .ok (.aload_n 0, 1) := by decide +kernel
theorem dX5_way_39 : decode cX5_way 39 = .ok (.getfield 22, 3) := by decide +kernel
theorem dX5_way_42 : decode cX5_way 42 = .ok (.iload_n 3, 1) := by decide +kernel
theorem dX5_way_43 : decode cX5_way 43 = .ok (.iaload, 1) := by decide +kernel
theorem dX5_way_44 : decode cX5_way 44 = .ok (.istore_n 3, 1) := by decide +kernel
theorem dX5_way_45 : decode cX5_way 45 = .ok (.iinc 4 1, 3) := by decide +kernel
theorem dX5_way_48 : decode cX5_way 48 = .ok (.goto (-21), 3) := by decide +kernel
theorem dX5_way_51 : decode cX5_way 51 = .ok (.iload_n 3, 1) := by decide +kernel
theorem dX5_way_52 : decode cX5_way 52 = .ok (.ireturn, 1) := by decide +kernel
theorem dX5_endOf_0 : decode cX5_endOf 0 = .ok (.iload_n 1, 1) := by decide +kernel
theorem dX5_endOf_1 : decode cX5_endOf 1 = .ok (.istore_n 2, 1) := by decide +kernel
theorem dX5_endOf_2 : decode cX5_endOf 2 = .ok (.aload_n 0, 1) := by decide +kernel
theorem dX5_endOf_3 : decode cX5_endOf 3 = .ok (.getfield 22, 3) := by decide +kernel
theorem dX5_endOf_6 : decode cX5_endOf 6 = .ok (.iload_n 2, 1) := by decide +kernel
theorem dX5_endOf_7 : decode cX5_endOf 7 = .ok (.iaload, 1) := by decide +kernel
theorem dX5_endOf_8 : decode cX5_endOf 8 = .ok (.iconst (-1), 1) := by decide +kernel
theorem dX5_endOf_9 : decode cX5_endOf 9 = .ok (.if_icmp .eq 13, 3) := by decide +kernel
theorem dX5_endOf_12 : decode cX5_endOf 12 = .ok (.aload_n 0, 1) := by decide +kernel
theorem dX5_endOf_13 : decode cX5_endOf 13 = .ok (.getfield 22, 3) := by decide +kernel
theorem dX5_endOf_16 : decode cX5_endOf 16 = .ok (.iload_n 2, 1) := by decide +kernel
theorem dX5_endOf_17 : decode cX5_endOf 17 = .ok (.iaload, 1) := by decide +kernel
theorem dX5_endOf_18 : decode cX5_endOf 18 = .ok (.istore_n 2, 1) := by decide +kernel
theorem dX5_endOf_19 : decode cX5_endOf 19 = .ok (.goto (-17), 3) := by decide +kernel
theorem dX5_endOf_22 : decode cX5_endOf 22 = .ok (.iload_n 2, 1) := by decide +kernel
theorem dX5_endOf_23 : decode cX5_endOf 23 = .ok (.ireturn, 1) := by decide +kernel
set_option maxRecDepth 20000 in
theorem ggX5_end_X5_isSection : GoodIn wsX5_end wsX5_isSection := goodIn_r _ [5, 6, 7, 8, 4, 9, 38, 39, 40, 41, 42, 43, 44, 45, 46, 47, 48, 49] (by decide +kernel) (by decide +kernel)
set_option maxRecDepth 20000 in
theorem gX5_end_X5_isSection : GoodIn wsX5_end (wsV RX5 51 RX5 yX5_isSection wsX5_isSection) := goodIn_app (goodIn_of _ (by decide +kernel)) ggX5_end_X5_isSection
set_option maxRecDepth 20000 in
theorem ggX5_end_X5_freezes : GoodIn wsX5_end wsX5_freezes := goodIn_r _ [13, 6, 14, 15, 16, 17, 18, 19, 20, 4, 21, 22, 23, 24, 25, 26, 27, 28, 29, 30, 31, 32, 33, 38, 39, 40, 41, 42, 43, 44, 45, 46, 47, 48, 49] (by decide +kernel) (by decide +kernel)
set_option maxRecDepth 20000 in
theorem gX5_end_X5_freezes : GoodIn wsX5_end (wsV RX5 82 RX5 yX5_freezes wsX5_freezes) := goodIn_app (goodIn_of _ (by decide +kernel)) ggX5_end_X5_freezes
set_option maxRecDepth 20000 in
theorem ggX5_end_X5_endOf : GoodIn wsX5_end wsX5_endOf := goodIn_r _ [37, 17, 38, 39, 40, 41, 42, 43, 44, 45, 46, 47, 48, 49] (by decide +kernel) (by decide +kernel)
set_option maxRecDepth 20000 in
theorem gX5_end_X5_endOf : GoodIn wsX5_end (wsV RX5 98 RX5 yX5_endOf wsX5_endOf) := goodIn_app (goodIn_of _ (by decide +kernel)) ggX5_end_X5_endOf
theorem dX5_end_0 : decode cX5_end 0 = .ok (.aload_n 0, 1) := by decide +kernel
theorem dX5_end_1 : decode cX5_end 1 = .ok (.iload_n 1, 1) := by decide +kernel
theorem dX5_end_2 : decode cX5_end 2 = .ok (.invokevirtual 51, 3) := by decide +kernel
theorem dX5_end_5 : decode cX5_end 5 = .ok (.ifCond .ne 6, 3) := by decide +kernel
theorem dX5_end_8 : decode cX5_end 8 = .ok (.bipush (-2), 2) := by decide +kernel
theorem dX5_end_10 : decode cX5_end 10 = .ok (.ireturn, 1) := by decide +kernel
theorem dX5_end_11 : decode cX5_end 11 = .ok (.aload_n 0, 1) := by decide +kernel
theorem dX5_end_12 : decode cX5_end 12 = .ok (.invokevirtual 82, 3) := by decide +kernel
theorem dX5_end_15 : decode cX5_end 15 = .ok (.aload_n 0, 1) := by decide +kernel
theorem dX5_end_16 : decode cX5_end 16 = .ok (.iload_n 1, 1) := by decide +kernel
theorem dX5_end_17 : decode cX5_end 17 = .ok (.invokevirtual 98, 3) := by decide +kernel
theorem dX5_end_20 : decode cX5_end 20 = .ok (.ireturn, 1) := by decide +kernel
set_option maxRecDepth 20000 in
theorem ggX5_gathers_X5_isSection : GoodIn wsX5_gathers wsX5_isSection := goodIn_r _ [6, 1, 7, 8, 5, 9, 38, 39, 40, 41, 42, 43, 44, 45, 46, 47, 48, 49] (by decide +kernel) (by decide +kernel)
set_option maxRecDepth 20000 in
theorem gX5_gathers_X5_isSection : GoodIn wsX5_gathers (wsV RX5 51 RX5 yX5_isSection wsX5_isSection) := goodIn_app (goodIn_of _ (by decide +kernel)) ggX5_gathers_X5_isSection
set_option maxRecDepth 20000 in
theorem ggX5_gathers_X5_freezes : GoodIn wsX5_gathers wsX5_freezes := goodIn_r _ [13, 1, 14, 15, 16, 17, 18, 19, 20, 5, 21, 22, 23, 24, 25, 26, 27, 28, 29, 30, 31, 32, 33, 38, 39, 40, 41, 42, 43, 44, 45, 46, 47, 48, 49] (by decide +kernel) (by decide +kernel)
set_option maxRecDepth 20000 in
theorem gX5_gathers_X5_freezes : GoodIn wsX5_gathers (wsV RX5 82 RX5 yX5_freezes wsX5_freezes) := goodIn_app (goodIn_of _ (by decide +kernel)) ggX5_gathers_X5_freezes
set_option maxRecDepth 20000 in
theorem ggX5_gathers_X5_endOf : GoodIn wsX5_gathers wsX5_endOf := goodIn_r _ [37, 17, 38, 39, 40, 41, 42, 43, 44, 45, 46, 47, 48, 49] (by decide +kernel) (by decide +kernel)
set_option maxRecDepth 20000 in
theorem gX5_gathers_X5_endOf : GoodIn wsX5_gathers (wsV RX5 98 RX5 yX5_endOf wsX5_endOf) := goodIn_app (goodIn_of _ (by decide +kernel)) ggX5_gathers_X5_endOf
set_option maxRecDepth 20000 in
theorem ggX5_gathers_X5_firstNeed : GoodIn wsX5_gathers wsX5_firstNeed := goodIn_r _ [29, 1, 22, 23, 24, 5, 25, 38, 39, 40, 41, 42, 43, 44, 45, 46, 47, 48, 49] (by decide +kernel) (by decide +kernel)
set_option maxRecDepth 20000 in
theorem gX5_gathers_X5_firstNeed : GoodIn wsX5_gathers (wsV RX5 75 RX5 yX5_firstNeed wsX5_firstNeed) := goodIn_app (goodIn_of _ (by decide +kernel)) ggX5_gathers_X5_firstNeed
theorem dX5_gathers_0 : decode cX5_gathers 0 = .ok (.aload_n 0, 1) := by decide +kernel
theorem dX5_gathers_1 : decode cX5_gathers 1 = .ok (.iload_n 1, 1) := by decide +kernel
theorem dX5_gathers_2 : decode cX5_gathers 2 = .ok (.invokevirtual 51, 3) := by decide +kernel
theorem dX5_gathers_5 : decode cX5_gathers 5 = .ok (.ifCond .ne 6, 3) := by decide +kernel
theorem dX5_gathers_8 : decode cX5_gathers 8 = .ok (.bipush (-2), 2) := by decide +kernel
theorem dX5_gathers_10 : decode cX5_gathers 10 = .ok (.ireturn, 1) := by decide +kernel
theorem dX5_gathers_11 : decode cX5_gathers 11 = .ok (.aload_n 0, 1) := by decide +kernel
theorem dX5_gathers_12 : decode cX5_gathers 12 = .ok (.invokevirtual 82, 3) := by decide +kernel
theorem dX5_gathers_15 : decode cX5_gathers 15 = .ok (.iconst 0, 1) := by decide +kernel
theorem dX5_gathers_16 : decode cX5_gathers 16 = .ok (.istore_n 2, 1) := by decide +kernel
theorem dX5_gathers_17 : decode cX5_gathers 17 = .ok (.iconst 0, 1) := by decide +kernel
theorem dX5_gathers_18 : decode cX5_gathers 18 = .ok (.istore_n 3, 1) := by decide +kernel
theorem dX5_gathers_19 : decode cX5_gathers 19 = .ok (.iload_n 3, 1) := by decide +kernel
theorem dX5_gathers_20 : decode cX5_gathers 20 = .ok (.aload_n 0, 1) := by decide +kernel
theorem dX5_gathers_21 : decode cX5_gathers 21 = .ok (.getfield 7, 3) := by decide +kernel
theorem dX5_gathers_24 : decode cX5_gathers 24 = .ok (.iconst 0, 1) := by decide +kernel
theorem dX5_gathers_25 : decode cX5_gathers 25 = .ok (.iaload, 1) := by decide +kernel
theorem dX5_gathers_26 : decode cX5_gathers 26 = .ok (.if_icmp .ge 30, 3) := by decide +kernel
theorem dX5_gathers_29 : decode cX5_gathers 29 = .ok (.iload_n 2, 1) := by decide +kernel
theorem dX5_gathers_30 : decode cX5_gathers 30 = .ok (.aload_n 0, 1) := by decide +kernel
theorem dX5_gathers_31 : decode cX5_gathers 31 = .ok (.iload_n 3, 1) := by decide +kernel
theorem dX5_gathers_32 : decode cX5_gathers 32 = .ok (.invokevirtual 98, 3) := by decide +kernel
theorem dX5_gathers_35 : decode cX5_gathers 35 = .ok (.iload_n 1, 1) := by decide +kernel
theorem dX5_gathers_36 : decode cX5_gathers 36 = .ok (.if_icmp .ne 11, 3) := by decide +kernel
theorem dX5_gathers_39 : decode cX5_gathers 39 = .ok (.aload_n 0, 1) := by decide +kernel
theorem dX5_gathers_40 : decode cX5_gathers 40 = .ok (.iload_n 3, 1) := by decide +kernel
theorem dX5_gathers_41 : decode cX5_gathers 41 = .ok (.invokevirtual 75, 3) := by decide +kernel
theorem dX5_gathers_44 : decode cX5_gathers 44 = .ok (.goto 4, 3) := by decide +kernel
theorem dX5_gathers_47 : decode cX5_gathers 47 = .ok (.iconst 0, 1) := by decide +kernel
theorem dX5_gathers_48 : decode cX5_gathers 48 = .ok (.iadd, 1) := by decide +kernel
theorem dX5_gathers_49 : decode cX5_gathers 49 = .ok (.istore_n 2, 1) := by decide +kernel
theorem dX5_gathers_50 : decode cX5_gathers 50 = .ok (.iinc 3 1, 3) := by decide +kernel
theorem dX5_gathers_53 : decode cX5_gathers 53 = .ok (.goto (-34), 3) := by decide +kernel
theorem dX5_gathers_56 : decode cX5_gathers 56 = .ok (.iload_n 2, 1) := by decide +kernel
theorem dX5_gathers_57 : decode cX5_gathers 57 = .ok (.ireturn, 1) := by decide +kernel
set_option maxRecDepth 20000 in
theorem ggX5_isSoundWith_X5_copies : GoodIn wsX5_isSoundWith wsX5_copies := goodIn_r _ [6, 1, 51, 52, 53, 54, 55, 56, 57, 58, 59, 60, 61, 62] (by decide +kernel) (by decide +kernel)
set_option maxRecDepth 20000 in
theorem gX5_isSoundWith_X5_copies : GoodIn wsX5_isSoundWith (wsV RX5 32 RX5 yX5_copies wsX5_copies) := goodIn_app (goodIn_of _ (by decide +kernel)) ggX5_isSoundWith_X5_copies
set_option maxRecDepth 20000 in
theorem ggX5_isSoundWith_X5_lays : GoodIn wsX5_isSoundWith wsX5_lays := goodIn_r _ [10, 1, 51, 52, 53, 54, 55, 56, 57, 58, 59, 60, 61, 62] (by decide +kernel) (by decide +kernel)
set_option maxRecDepth 20000 in
theorem gX5_isSoundWith_X5_lays : GoodIn wsX5_isSoundWith (wsV RX5 47 RX5 yX5_lays wsX5_lays) := goodIn_app (goodIn_of _ (by decide +kernel)) ggX5_isSoundWith_X5_lays
set_option maxRecDepth 20000 in
theorem ggX5_isSoundWith_X5_joins : GoodIn wsX5_isSoundWith wsX5_joins := goodIn_r _ [14, 1, 51, 52, 53, 54, 55, 56, 57, 58, 59, 60, 61, 62] (by decide +kernel) (by decide +kernel)
set_option maxRecDepth 20000 in
theorem gX5_isSoundWith_X5_joins : GoodIn wsX5_isSoundWith (wsV RX5 66 RX5 yX5_joins wsX5_joins) := goodIn_app (goodIn_of _ (by decide +kernel)) ggX5_isSoundWith_X5_joins
set_option maxRecDepth 20000 in
theorem ggX5_isSoundWith_X5_excesses : GoodIn wsX5_isSoundWith wsX5_excesses := goodIn_r _ [18, 1, 19, 20, 21, 5, 22, 23, 24, 25, 26, 27, 28, 29, 30, 31, 32, 33, 34, 35, 36, 37, 38, 39, 40, 41, 42, 43, 44, 45, 46, 47, 48, 49, 50, 51, 52, 53, 54, 55, 56, 57, 58, 59, 60, 61, 62] (by decide +kernel) (by decide +kernel)
set_option maxRecDepth 20000 in
theorem gX5_isSoundWith_X5_excesses : GoodIn wsX5_isSoundWith (wsV RX5 88 RX5 yX5_excesses wsX5_excesses) := goodIn_app (goodIn_of _ (by decide +kernel)) ggX5_isSoundWith_X5_excesses
theorem dX5_isSoundWith_0 : decode cX5_isSoundWith 0 = .ok (.aload_n 0, 1) := by decide +kernel
theorem dX5_isSoundWith_1 : decode cX5_isSoundWith 1 = .ok (.iconst 0, 1) := by decide +kernel
theorem dX5_isSoundWith_2 : decode cX5_isSoundWith 2 = .ok (.bipush 6, 2) := by decide +kernel
theorem dX5_isSoundWith_4 : decode cX5_isSoundWith 4 = .ok (.invokevirtual 32, 3) := by decide +kernel
theorem dX5_isSoundWith_7 : decode cX5_isSoundWith 7 = .ok (.aload_n 0, 1) := by decide +kernel
theorem dX5_isSoundWith_8 : decode cX5_isSoundWith 8 = .ok (.iload_n 1, 1) := by decide +kernel
theorem dX5_isSoundWith_9 : decode cX5_isSoundWith 9 = .ok (.iload_n 1, 1) := by decide +kernel
theorem dX5_isSoundWith_10 : decode cX5_isSoundWith 10 = .ok (.imul, 1) := by decide +kernel
theorem dX5_isSoundWith_11 : decode cX5_isSoundWith 11 = .ok (.iload_n 1, 1) := by decide +kernel
theorem dX5_isSoundWith_12 : decode cX5_isSoundWith 12 = .ok (.imul, 1) := by decide +kernel
theorem dX5_isSoundWith_13 : decode cX5_isSoundWith 13 = .ok (.iconst 5, 1) := by decide +kernel
theorem dX5_isSoundWith_14 : decode cX5_isSoundWith 14 = .ok (.iload_n 1, 1) := by decide +kernel
theorem dX5_isSoundWith_15 : decode cX5_isSoundWith 15 = .ok (.imul, 1) := by decide +kernel
theorem dX5_isSoundWith_16 : decode cX5_isSoundWith 16 = .ok (.iload_n 1, 1) := by decide +kernel
theorem dX5_isSoundWith_17 : decode cX5_isSoundWith 17 = .ok (.imul, 1) := by decide +kernel
theorem dX5_isSoundWith_18 : decode cX5_isSoundWith 18 = .ok (.iconst 0, 1) := by decide +kernel
theorem dX5_isSoundWith_19 : decode cX5_isSoundWith 19 = .ok (.iconst 1, 1) := by decide +kernel
theorem dX5_isSoundWith_20 : decode cX5_isSoundWith 20 = .ok (.invokevirtual 47, 3) := by decide +kernel
theorem dX5_isSoundWith_23 : decode cX5_isSoundWith 23 = .ok (.aload_n 0, 1) := by decide +kernel
theorem dX5_isSoundWith_24 : decode cX5_isSoundWith 24 = .ok (.iload_n 2, 1) := by decide +kernel
theorem dX5_isSoundWith_25 : decode cX5_isSoundWith 25 = .ok (.aload_n 0, 1) := by decide +kernel
theorem dX5_isSoundWith_26 : decode cX5_isSoundWith 26 = .ok (.getfield 7, 3) := by decide +kernel
theorem dX5_isSoundWith_29 : decode cX5_isSoundWith 29 = .ok (.iconst 0, 1) := by decide +kernel
theorem dX5_isSoundWith_30 : decode cX5_isSoundWith 30 = .ok (.iaload, 1) := by decide +kernel
theorem dX5_isSoundWith_31 : decode cX5_isSoundWith 31 = .ok (.iconst 1, 1) := by decide +kernel
theorem dX5_isSoundWith_32 : decode cX5_isSoundWith 32 = .ok (.isub, 1) := by decide +kernel
theorem dX5_isSoundWith_33 : decode cX5_isSoundWith 33 = .ok (.invokevirtual 66, 3) := by decide +kernel
theorem dX5_isSoundWith_36 : decode cX5_isSoundWith 36 = .ok (.aload_n 0, 1) := by decide +kernel
theorem dX5_isSoundWith_37 : decode cX5_isSoundWith 37 = .ok (.invokevirtual 88, 3) := by decide +kernel
theorem dX5_isSoundWith_40 : decode cX5_isSoundWith 40 = .ok (.ifCond .ne 7, 3) := by decide +kernel
theorem dX5_isSoundWith_43 : decode cX5_isSoundWith 43 = .ok (.iconst 1, 1) := by decide +kernel
theorem dX5_isSoundWith_44 : decode cX5_isSoundWith 44 = .ok (.goto 4, 3) := by decide +kernel
theorem dX5_isSoundWith_47 : decode cX5_isSoundWith 47 = .ok (.iconst 0, 1) := by decide +kernel
theorem dX5_isSoundWith_48 : decode cX5_isSoundWith 48 = .ok (.istore_n 3, 1) := by decide +kernel
theorem dX5_isSoundWith_49 : decode cX5_isSoundWith 49 = .ok (.aload_n 0, 1) := by decide +kernel
theorem dX5_isSoundWith_50 : decode cX5_isSoundWith 50 = .ok (.bipush 6, 2) := by decide +kernel
theorem dX5_isSoundWith_52 : decode cX5_isSoundWith 52 = .ok (.iconst 0, 1) := by decide +kernel
theorem dX5_isSoundWith_53 : decode cX5_isSoundWith 53 = .ok (.invokevirtual 32, 3) := by decide +kernel
theorem dX5_isSoundWith_56 : decode cX5_isSoundWith 56 = .ok (.iload_n 3, 1) := by decide +kernel
theorem dX5_isSoundWith_57 : decode cX5_isSoundWith 57 = .ok (.ireturn, 1) := by decide +kernel
theorem dX5_isFull_0 : decode cX5_isFull 0 = .ok (.aload_n 0, 1) := by decide +kernel
theorem dX5_isFull_1 : decode cX5_isFull 1 = .ok (.getfield 7, 3) := by decide +kernel
theorem dX5_isFull_4 : decode cX5_isFull 4 = .ok (.iconst 0, 1) := by decide +kernel
theorem dX5_isFull_5 : decode cX5_isFull 5 = .ok (.iaload, 1) := by decide +kernel
theorem dX5_isFull_6 : decode cX5_isFull 6 = .ok (.bipush 12, 2) := by decide +kernel
theorem dX5_isFull_8 : decode cX5_isFull 8 = .ok (.if_icmp .eq 14, 3) := by decide +kernel
theorem dX5_isFull_11 : decode cX5_isFull 11 = .ok (.aload_n 0, 1) := by decide +kernel
theorem dX5_isFull_12 : decode cX5_isFull 12 = .ok (.getfield 7, 3) := by decide +kernel
theorem dX5_isFull_15 : decode cX5_isFull 15 = .ok (.iconst 1, 1) := by decide +kernel
theorem dX5_isFull_16 : decode cX5_isFull 16 = .ok (.iaload, 1) := by decide +kernel
theorem dX5_isFull_17 : decode cX5_isFull 17 = .ok (.bipush 20, 2) := by decide +kernel
theorem dX5_isFull_19 : decode cX5_isFull 19 = .ok (.if_icmp .ne 7, 3) := by decide +kernel
theorem dX5_isFull_22 : decode cX5_isFull 22 = .ok (.iconst 1, 1) := by decide +kernel
theorem dX5_isFull_23 : decode cX5_isFull 23 = .ok (.goto 4, 3) := by decide +kernel
theorem dX5_isFull_26 : decode cX5_isFull 26 = .ok (.iconst 0, 1) := by decide +kernel
theorem dX5_isFull_27 : decode cX5_isFull 27 = .ok (.ireturn, 1) := by decide +kernel
set_option maxRecDepth 20000 in
theorem ggX5_leastFeeder_X5_isSection : GoodIn wsX5_leastFeeder wsX5_isSection := goodIn_r _ [5, 6, 7, 8, 4, 9, 66, 67, 68, 69, 70, 71, 72, 73, 74, 75, 76, 77] (by decide +kernel) (by decide +kernel)
set_option maxRecDepth 20000 in
theorem gX5_leastFeeder_X5_isSection : GoodIn wsX5_leastFeeder (wsV RX5 51 RX5 yX5_isSection wsX5_isSection) := goodIn_app (goodIn_of _ (by decide +kernel)) ggX5_leastFeeder_X5_isSection
set_option maxRecDepth 20000 in
theorem ggX5_leastFeeder_X5_isFull : GoodIn wsX5_leastFeeder wsX5_isFull := goodIn_r _ [13, 6, 66, 67, 68, 69, 70, 71, 72, 73, 74, 75, 76, 77] (by decide +kernel) (by decide +kernel)
set_option maxRecDepth 20000 in
theorem gX5_leastFeeder_X5_isFull : GoodIn wsX5_leastFeeder (wsV RX5 101 RX5 yX5_isFull wsX5_isFull) := goodIn_app (goodIn_of _ (by decide +kernel)) ggX5_leastFeeder_X5_isFull
set_option maxRecDepth 20000 in
theorem ggX5_leastFeeder_X5_isSoundWith : GoodIn wsX5_leastFeeder wsX5_isSoundWith := goodIn_r _ [17, 6, 18, 19, 20, 4, 21, 22, 23, 24, 25, 26, 27, 28, 29, 30, 31, 32, 33, 34, 35, 36, 37, 38, 39, 40, 41, 42, 43, 44, 45, 46, 47, 48, 49, 50, 51, 52, 53, 54, 55, 56, 57, 58, 59, 60, 61, 62, 63, 64, 65, 66, 67, 68, 69, 70, 71, 72, 73, 74, 75, 76, 77] (by decide +kernel) (by decide +kernel)
set_option maxRecDepth 20000 in
theorem gX5_leastFeeder_X5_isSoundWith : GoodIn wsX5_leastFeeder (wsV RX5 105 RX5 yX5_isSoundWith wsX5_isSoundWith) := goodIn_app (goodIn_of _ (by decide +kernel)) ggX5_leastFeeder_X5_isSoundWith
theorem dX5_leastFeeder_0 : decode cX5_leastFeeder 0 = .ok (.aload_n 0, 1) := by decide +kernel
theorem dX5_leastFeeder_1 : decode cX5_leastFeeder 1 = .ok (.iload_n 1, 1) := by decide +kernel
theorem dX5_leastFeeder_2 : decode cX5_leastFeeder 2 = .ok (.invokevirtual 51, 3) := by decide +kernel
theorem dX5_leastFeeder_5 : decode cX5_leastFeeder 5 = .ok (.ifCond .ne 6, 3) := by decide +kernel
theorem dX5_leastFeeder_8 : decode cX5_leastFeeder 8 = .ok (.bipush (-2), 2) := by decide +kernel
theorem dX5_leastFeeder_10 : decode cX5_leastFeeder 10 = .ok (.ireturn, 1) := by decide +kernel
theorem dX5_leastFeeder_11 : decode cX5_leastFeeder 11 = .ok (.aload_n 0, 1) := by decide +kernel
theorem dX5_leastFeeder_12 : decode cX5_leastFeeder 12 = .ok (.invokevirtual 101, 3) := by decide +kernel
theorem dX5_leastFeeder_15 : decode cX5_leastFeeder 15 = .ok (.ifCond .eq 6, 3) := by decide +kernel
theorem dX5_leastFeeder_18 : decode cX5_leastFeeder 18 = .ok (.bipush (-5), 2) := by decide +kernel
theorem dX5_leastFeeder_20 : decode cX5_leastFeeder 20 = .ok (.ireturn, 1) := by decide +kernel
theorem dX5_leastFeeder_21 : decode cX5_leastFeeder 21 = .ok (.iconst 1, 1) := by decide +kernel
theorem dX5_leastFeeder_22 : decode cX5_leastFeeder 22 = .ok (.istore_n 2, 1) := by decide +kernel
theorem dX5_leastFeeder_23 : decode cX5_leastFeeder 23 = .ok (.iload_n 2, 1) := by decide +kernel
theorem dX5_leastFeeder_24 : decode cX5_leastFeeder 24 = .ok (.bipush 15, 2) := by decide +kernel
theorem dX5_leastFeeder_26 : decode cX5_leastFeeder 26 = .ok (.if_icmp .gt 18, 3) := by decide +kernel
theorem dX5_leastFeeder_29 : decode cX5_leastFeeder 29 = .ok (.aload_n 0, 1) := by decide +kernel
theorem dX5_leastFeeder_30 : decode cX5_leastFeeder 30 = .ok (.iload_n 2, 1) := by decide +kernel
theorem dX5_leastFeeder_31 : decode cX5_leastFeeder 31 = .ok (.iload_n 1, 1) := by decide +kernel
theorem dX5_leastFeeder_32 : decode cX5_leastFeeder 32 = .ok (.invokevirtual 105, 3) := by decide +kernel
theorem dX5_leastFeeder_35 : decode cX5_leastFeeder 35 = .ok (.ifCond .ne 9, 3) := by decide +kernel
theorem dX5_leastFeeder_38 : decode cX5_leastFeeder 38 = .ok (.iinc 2 1, 3) := by decide +kernel
theorem dX5_leastFeeder_41 : decode cX5_leastFeeder 41 = .ok (.goto (-18), 3) := by decide +kernel
theorem dX5_leastFeeder_44 : decode cX5_leastFeeder 44 = .ok (.iload_n 2, 1) := by decide +kernel
theorem dX5_leastFeeder_45 : decode cX5_leastFeeder 45 = .ok (.bipush 15, 2) := by decide +kernel
theorem dX5_leastFeeder_47 : decode cX5_leastFeeder 47 = .ok (.if_icmp .gt 7, 3) := by decide +kernel
theorem dX5_leastFeeder_50 : decode cX5_leastFeeder 50 = .ok (.iload_n 2, 1) := by decide +kernel
theorem dX5_leastFeeder_51 : decode cX5_leastFeeder 51 = .ok (.goto 4, 3) := by decide +kernel
theorem dX5_leastFeeder_54 : decode cX5_leastFeeder 54 = .ok (.iconst (-1), 1) := by decide +kernel
theorem dX5_leastFeeder_55 : decode cX5_leastFeeder 55 = .ok (.ireturn, 1) := by decide +kernel
set_option maxRecDepth 20000 in
theorem ggX5_bestFeeder_X5_isFull : GoodIn wsX5_bestFeeder wsX5_isFull := goodIn_r _ [6, 1, 59, 60, 61, 62, 63, 64, 65, 66, 67, 68, 69, 70] (by decide +kernel) (by decide +kernel)
set_option maxRecDepth 20000 in
theorem gX5_bestFeeder_X5_isFull : GoodIn wsX5_bestFeeder (wsV RX5 101 RX5 yX5_isFull wsX5_isFull) := goodIn_app (goodIn_of _ (by decide +kernel)) ggX5_bestFeeder_X5_isFull
set_option maxRecDepth 20000 in
theorem ggX5_bestFeeder_X5_isSoundWith : GoodIn wsX5_bestFeeder wsX5_isSoundWith := goodIn_r _ [10, 1, 11, 12, 13, 5, 14, 15, 16, 17, 18, 19, 20, 21, 22, 23, 24, 25, 26, 27, 28, 29, 30, 31, 32, 33, 34, 35, 36, 37, 38, 39, 40, 41, 42, 43, 44, 45, 46, 47, 48, 49, 50, 51, 52, 53, 54, 55, 56, 57, 58, 59, 60, 61, 62, 63, 64, 65, 66, 67, 68, 69, 70] (by decide +kernel) (by decide +kernel)
set_option maxRecDepth 20000 in
theorem gX5_bestFeeder_X5_isSoundWith : GoodIn wsX5_bestFeeder (wsV RX5 105 RX5 yX5_isSoundWith wsX5_isSoundWith) := goodIn_app (goodIn_of _ (by decide +kernel)) ggX5_bestFeeder_X5_isSoundWith
theorem dX5_bestFeeder_0 : decode cX5_bestFeeder 0 = .ok (.aload_n 0, 1) := by decide +kernel
theorem dX5_bestFeeder_1 : decode cX5_bestFeeder 1 = .ok (.invokevirtual 101, 3) := by decide +kernel
theorem dX5_bestFeeder_4 : decode cX5_bestFeeder 4 = .ok (.ifCond .eq 6, 3) := by decide +kernel
theorem dX5_bestFeeder_7 : decode cX5_bestFeeder 7 = .ok (.bipush (-5), 2) := by decide +kernel
theorem dX5_bestFeeder_9 : decode cX5_bestFeeder 9 = .ok (.ireturn, 1) := by decide +kernel
theorem dX5_bestFeeder_10 : decode cX5_bestFeeder 10 = .ok (.iconst 1, 1) := by decide +kernel
theorem dX5_bestFeeder_11 : decode cX5_bestFeeder 11 = .ok (.istore_n 1, 1) := by decide +kernel
theorem dX5_bestFeeder_12 : decode cX5_bestFeeder 12 = .ok (.iload_n 1, 1) := by decide +kernel
theorem dX5_bestFeeder_13 : decode cX5_bestFeeder 13 = .ok (.bipush 15, 2) := by decide +kernel
theorem dX5_bestFeeder_15 : decode cX5_bestFeeder 15 = .ok (.if_icmp .gt 43, 3) := by decide +kernel
theorem dX5_bestFeeder_18 : decode cX5_bestFeeder 18 = .ok (.iconst 0, 1) := by decide +kernel
theorem dX5_bestFeeder_19 : decode cX5_bestFeeder 19 = .ok (.istore_n 2, 1) := by decide +kernel
theorem dX5_bestFeeder_20 : decode cX5_bestFeeder 20 = .ok (.iload_n 2, 1) := by decide +kernel
theorem dX5_bestFeeder_21 : decode cX5_bestFeeder 21 = .ok (.aload_n 0, 1) := by decide +kernel
theorem dX5_bestFeeder_22 : decode cX5_bestFeeder 22 = .ok (.getfield 7, 3) := by decide +kernel
theorem dX5_bestFeeder_25 : decode cX5_bestFeeder 25 = .ok (.iconst 0, 1) := by decide +kernel
theorem dX5_bestFeeder_26 : decode cX5_bestFeeder 26 = .ok (.iaload, 1) := by decide +kernel
theorem dX5_bestFeeder_27 : decode cX5_bestFeeder 27 = .ok (.if_icmp .ge 25, 3) := by decide +kernel
theorem dX5_bestFeeder_30 : decode cX5_bestFeeder 30 = .ok (.aload_n 0, 1) := by decide +kernel
theorem dX5_bestFeeder_31 : decode cX5_bestFeeder 31 = .ok (.iload_n 1, 1) := by decide +kernel
theorem dX5_bestFeeder_32 : decode cX5_bestFeeder 32 = .ok (.iload_n 2, 1) := by decide +kernel
theorem dX5_bestFeeder_33 : decode cX5_bestFeeder 33 = .ok (.invokevirtual 105, 3) := by decide +kernel
theorem dX5_bestFeeder_36 : decode cX5_bestFeeder 36 = .ok (.ifCond .eq 10, 3) := by decide +kernel
theorem dX5_bestFeeder_39 : decode cX5_bestFeeder 39 = .ok (.bipush 100, 2) := by decide +kernel
theorem dX5_bestFeeder_41 : decode cX5_bestFeeder 41 = .ok (.iload_n 1, 1) := by decide +kernel
theorem dX5_bestFeeder_42 : decode cX5_bestFeeder 42 = .ok (.imul, 1) := by decide +kernel
theorem dX5_bestFeeder_43 : decode cX5_bestFeeder 43 = .ok (.iload_n 2, 1) := by decide +kernel
theorem dX5_bestFeeder_44 : decode cX5_bestFeeder 44 = .ok (.iadd, 1) := by decide +kernel
theorem dX5_bestFeeder_45 : decode cX5_bestFeeder 45 = .ok (.ireturn, 1) := by decide +kernel
theorem dX5_bestFeeder_46 : decode cX5_bestFeeder 46 = .ok (.iinc 2 1, 3) := by decide +kernel
theorem dX5_bestFeeder_49 : decode cX5_bestFeeder 49 = .ok (.goto (-29), 3) := by decide +kernel
theorem dX5_bestFeeder_52 : decode cX5_bestFeeder 52 = .ok (.iinc 1 1, 3) := by decide +kernel
theorem dX5_bestFeeder_55 : decode cX5_bestFeeder 55 = .ok (.goto (-43), 3) := by decide +kernel
theorem dX5_bestFeeder_58 : decode cX5_bestFeeder 58 = .ok (.iconst (-1), 1) := by decide +kernel
theorem dX5_bestFeeder_59 : decode cX5_bestFeeder 59 = .ok (.ireturn, 1) := by decide +kernel
set_option maxRecDepth 20000 in
theorem ggX5_excessesWith_X5_of : GoodIn wsX5_excessesWith wsX5_of := goodIn_r _ [6, 1, 39, 40, 41, 42, 43, 44, 45, 46, 47, 48, 49, 50] (by decide +kernel) (by decide +kernel)
set_option maxRecDepth 20000 in
theorem gX5_excessesWith_X5_of : GoodIn wsX5_excessesWith (wsV RX5 55 RX5 yX5_of wsX5_of) := goodIn_app (goodIn_of _ (by decide +kernel)) ggX5_excessesWith_X5_of
set_option maxRecDepth 20000 in
theorem ggX5_excessesWith_X5_excesses : GoodIn wsX5_excessesWith wsX5_excesses := goodIn_r _ [10, 1, 11, 12, 13, 5, 14, 15, 16, 17, 18, 19, 20, 21, 22, 2, 3, 4, 6, 23, 24, 25, 26, 27, 28, 29, 30, 31, 32, 33, 34, 35, 36, 37, 38, 39, 40, 41, 42, 43, 44, 45, 46, 47, 48, 49, 50] (by decide +kernel) (by decide +kernel)
set_option maxRecDepth 20000 in
theorem gX5_excessesWith_X5_excesses : GoodIn wsX5_excessesWith (wsV RX5 88 RX5 yX5_excesses wsX5_excesses) := goodIn_app (goodIn_of _ (by decide +kernel)) ggX5_excessesWith_X5_excesses
theorem dX5_excessesWith_0 : decode cX5_excessesWith 0 = .ok (.aload_n 0, 1) := by decide +kernel
theorem dX5_excessesWith_1 : decode cX5_excessesWith 1 = .ok (.iload_n 1, 1) := by decide +kernel
theorem dX5_excessesWith_2 : decode cX5_excessesWith 2 = .ok (.iconst 2, 1) := by decide +kernel
theorem dX5_excessesWith_3 : decode cX5_excessesWith 3 = .ok (.invokevirtual 55, 3) := by decide +kernel
theorem dX5_excessesWith_6 : decode cX5_excessesWith 6 = .ok (.istore_n 3, 1) := by decide +kernel
theorem dX5_excessesWith_7 : decode cX5_excessesWith 7 = .ok (.aload_n 0, 1) := by decide +kernel
theorem dX5_excessesWith_8 : decode cX5_excessesWith 8 = .ok (.getfield 7, 3) := by decide +kernel
theorem dX5_excessesWith_11 : decode cX5_excessesWith 11 = .ok (.iconst 4, 1) := by decide +kernel
theorem dX5_excessesWith_12 : decode cX5_excessesWith 12 = .ok (.iconst 4, 1) := by decide +kernel
theorem dX5_excessesWith_13 : decode cX5_excessesWith 13 = .ok (.iload_n 1, 1) := by decide +kernel
theorem dX5_excessesWith_14 : decode cX5_excessesWith 14 = .ok (.imul, 1) := by decide +kernel
theorem dX5_excessesWith_15 : decode cX5_excessesWith 15 = .ok (.iadd, 1) := by decide +kernel
theorem dX5_excessesWith_16 : decode cX5_excessesWith 16 = .ok (.iconst 2, 1) := by decide +kernel
theorem dX5_excessesWith_17 : decode cX5_excessesWith 17 = .ok (.iadd, 1) := by decide +kernel
theorem dX5_excessesWith_18 : decode cX5_excessesWith 18 = .ok (.iload_n 2, 1) := by decide +kernel
theorem dX5_excessesWith_19 : decode cX5_excessesWith 19 = .ok (.iastore, 1) := by decide +kernel
theorem dX5_excessesWith_20 : decode cX5_excessesWith 20 = .ok (.aload_n 0, 1) := by decide +kernel
theorem dX5_excessesWith_21 : decode cX5_excessesWith 21 = .ok (.invokevirtual 88, 3) := by decide +kernel
theorem dX5_excessesWith_24 : decode cX5_excessesWith 24 = .ok (.istore 4, 2) := by decide +kernel
theorem dX5_excessesWith_26 : decode cX5_excessesWith 26 = .ok (.aload_n 0, 1) := by decide +kernel
theorem dX5_excessesWith_27 : decode cX5_excessesWith 27 = .ok (.getfield 7, 3) := by decide +kernel
theorem dX5_excessesWith_30 : decode cX5_excessesWith 30 = .ok (.iconst 4, 1) := by decide +kernel
theorem dX5_excessesWith_31 : decode cX5_excessesWith 31 = .ok (.iconst 4, 1) := by decide +kernel
theorem dX5_excessesWith_32 : decode cX5_excessesWith 32 = .ok (.iload_n 1, 1) := by decide +kernel
theorem dX5_excessesWith_33 : decode cX5_excessesWith 33 = .ok (.imul, 1) := by decide +kernel
theorem dX5_excessesWith_34 : decode cX5_excessesWith 34 = .ok (.iadd, 1) := by decide +kernel
theorem dX5_excessesWith_35 : decode cX5_excessesWith 35 = .ok (.iconst 2, 1) := by decide +kernel
theorem dX5_excessesWith_36 : decode cX5_excessesWith 36 = .ok (.iadd, 1) := by decide +kernel
theorem dX5_excessesWith_37 : decode cX5_excessesWith 37 = .ok (.iload_n 3, 1) := by decide +kernel
theorem dX5_excessesWith_38 : decode cX5_excessesWith 38 = .ok (.iastore, 1) := by decide +kernel
theorem dX5_excessesWith_39 : decode cX5_excessesWith 39 = .ok (.iload 4, 2) := by decide +kernel
theorem dX5_excessesWith_41 : decode cX5_excessesWith 41 = .ok (.ireturn, 1) := by decide +kernel
set_option maxRecDepth 20000 in
theorem ggX5_leastChill_X5_isSection : GoodIn wsX5_leastChill wsX5_isSection := goodIn_r _ [5, 6, 7, 8, 4, 9, 50, 51, 52, 53, 54, 55, 56, 57, 58, 59, 60, 61] (by decide +kernel) (by decide +kernel)
set_option maxRecDepth 20000 in
theorem gX5_leastChill_X5_isSection : GoodIn wsX5_leastChill (wsV RX5 51 RX5 yX5_isSection wsX5_isSection) := goodIn_app (goodIn_of _ (by decide +kernel)) ggX5_leastChill_X5_isSection
set_option maxRecDepth 20000 in
theorem ggX5_leastChill_X5_excessesWith : GoodIn wsX5_leastChill wsX5_excessesWith := goodIn_r _ [13, 6, 14, 15, 16, 4, 17, 18, 19, 20, 21, 22, 23, 24, 25, 26, 27, 28, 29, 30, 31, 32, 33, 34, 35, 36, 37, 38, 39, 40, 41, 42, 43, 44, 45, 46, 47, 48, 49, 50, 51, 52, 53, 54, 55, 56, 57, 58, 59, 60, 61] (by decide +kernel) (by decide +kernel)
set_option maxRecDepth 20000 in
theorem gX5_leastChill_X5_excessesWith : GoodIn wsX5_leastChill (wsV RX5 108 RX5 yX5_excessesWith wsX5_excessesWith) := goodIn_app (goodIn_of _ (by decide +kernel)) ggX5_leastChill_X5_excessesWith
theorem dX5_leastChill_0 : decode cX5_leastChill 0 = .ok (.aload_n 0, 1) := by decide +kernel
theorem dX5_leastChill_1 : decode cX5_leastChill 1 = .ok (.iload_n 1, 1) := by decide +kernel
theorem dX5_leastChill_2 : decode cX5_leastChill 2 = .ok (.invokevirtual 51, 3) := by decide +kernel
theorem dX5_leastChill_5 : decode cX5_leastChill 5 = .ok (.ifCond .ne 6, 3) := by decide +kernel
theorem dX5_leastChill_8 : decode cX5_leastChill 8 = .ok (.bipush (-2), 2) := by decide +kernel
theorem dX5_leastChill_10 : decode cX5_leastChill 10 = .ok (.ireturn, 1) := by decide +kernel
theorem dX5_leastChill_11 : decode cX5_leastChill 11 = .ok (.iconst 0, 1) := by decide +kernel
theorem dX5_leastChill_12 : decode cX5_leastChill 12 = .ok (.istore_n 2, 1) := by decide +kernel
theorem dX5_leastChill_13 : decode cX5_leastChill 13 = .ok (.iload_n 2, 1) := by decide +kernel
theorem dX5_leastChill_14 : decode cX5_leastChill 14 = .ok (.sipush 500, 3) := by decide +kernel
theorem dX5_leastChill_17 : decode cX5_leastChill 17 = .ok (.if_icmp .gt 18, 3) := by decide +kernel
theorem dX5_leastChill_20 : decode cX5_leastChill 20 = .ok (.aload_n 0, 1) := by decide +kernel
theorem dX5_leastChill_21 : decode cX5_leastChill 21 = .ok (.iload_n 1, 1) := by decide +kernel
theorem dX5_leastChill_22 : decode cX5_leastChill 22 = .ok (.iload_n 2, 1) := by decide +kernel
theorem dX5_leastChill_23 : decode cX5_leastChill 23 = .ok (.invokevirtual 108, 3) := by decide +kernel
theorem dX5_leastChill_26 : decode cX5_leastChill 26 = .ok (.ifCond .le 9, 3) := by decide +kernel
theorem dX5_leastChill_29 : decode cX5_leastChill 29 = .ok (.iinc 2 1, 3) := by decide +kernel
theorem dX5_leastChill_32 : decode cX5_leastChill 32 = .ok (.goto (-19), 3) := by decide +kernel
theorem dX5_leastChill_35 : decode cX5_leastChill 35 = .ok (.iload_n 2, 1) := by decide +kernel
theorem dX5_leastChill_36 : decode cX5_leastChill 36 = .ok (.sipush 500, 3) := by decide +kernel
theorem dX5_leastChill_39 : decode cX5_leastChill 39 = .ok (.if_icmp .gt 7, 3) := by decide +kernel
theorem dX5_leastChill_42 : decode cX5_leastChill 42 = .ok (.iload_n 2, 1) := by decide +kernel
theorem dX5_leastChill_43 : decode cX5_leastChill 43 = .ok (.goto 4, 3) := by decide +kernel
theorem dX5_leastChill_46 : decode cX5_leastChill 46 = .ok (.iconst (-1), 1) := by decide +kernel
theorem dX5_leastChill_47 : decode cX5_leastChill 47 = .ok (.ireturn, 1) := by decide +kernel
set_option maxRecDepth 20000 in
theorem ggX5_excessWith_X5_isSection : GoodIn wsX5_excessWith wsX5_isSection := goodIn_r _ [5, 6, 7, 8, 4, 9, 50, 51, 52, 53, 54, 55, 56, 57, 58, 59, 60, 61] (by decide +kernel) (by decide +kernel)
set_option maxRecDepth 20000 in
theorem gX5_excessWith_X5_isSection : GoodIn wsX5_excessWith (wsV RX5 51 RX5 yX5_isSection wsX5_isSection) := goodIn_app (goodIn_of _ (by decide +kernel)) ggX5_excessWith_X5_isSection
set_option maxRecDepth 20000 in
theorem ggX5_excessWith_X5_in : GoodIn wsX5_excessWith wsX5_in := goodIn_r _ [9] (by decide +kernel) (by decide +kernel)
set_option maxRecDepth 20000 in
theorem gX5_excessWith_X5_in : GoodIn wsX5_excessWith (va_wsS RX5 36 yX5_in wsX5_in) := goodIn_app (goodIn_of _ (by decide +kernel)) ggX5_excessWith_X5_in
set_option maxRecDepth 20000 in
theorem ggX5_excessWith_X5_excessesWith : GoodIn wsX5_excessWith wsX5_excessesWith := goodIn_r _ [13, 6, 14, 15, 16, 4, 17, 18, 19, 20, 21, 22, 23, 24, 25, 26, 27, 28, 29, 30, 31, 32, 33, 34, 35, 36, 37, 38, 39, 40, 41, 42, 43, 44, 45, 46, 47, 48, 49, 50, 51, 52, 53, 54, 55, 56, 57, 58, 59, 60, 61] (by decide +kernel) (by decide +kernel)
set_option maxRecDepth 20000 in
theorem gX5_excessWith_X5_excessesWith : GoodIn wsX5_excessWith (wsV RX5 108 RX5 yX5_excessesWith wsX5_excessesWith) := goodIn_app (goodIn_of _ (by decide +kernel)) ggX5_excessWith_X5_excessesWith
theorem dX5_excessWith_0 : decode cX5_excessWith 0 = .ok (.aload_n 0, 1) := by decide +kernel
theorem dX5_excessWith_1 : decode cX5_excessWith 1 = .ok (.iload_n 1, 1) := by decide +kernel
theorem dX5_excessWith_2 : decode cX5_excessWith 2 = .ok (.invokevirtual 51, 3) := by decide +kernel
theorem dX5_excessWith_5 : decode cX5_excessWith 5 = .ok (.ifCond .ne 6, 3) := by decide +kernel
theorem dX5_excessWith_8 : decode cX5_excessWith 8 = .ok (.bipush (-2), 2) := by decide +kernel
theorem dX5_excessWith_10 : decode cX5_excessWith 10 = .ok (.ireturn, 1) := by decide +kernel
theorem dX5_excessWith_11 : decode cX5_excessWith 11 = .ok (.iload_n 2, 1) := by decide +kernel
theorem dX5_excessWith_12 : decode cX5_excessWith 12 = .ok (.iconst 0, 1) := by decide +kernel
theorem dX5_excessWith_13 : decode cX5_excessWith 13 = .ok (.sipush 500, 3) := by decide +kernel
theorem dX5_excessWith_16 : decode cX5_excessWith 16 = .ok (.invokestatic 36, 3) := by decide +kernel
theorem dX5_excessWith_19 : decode cX5_excessWith 19 = .ok (.ifCond .eq 12, 3) := by decide +kernel
theorem dX5_excessWith_22 : decode cX5_excessWith 22 = .ok (.aload_n 0, 1) := by decide +kernel
theorem dX5_excessWith_23 : decode cX5_excessWith 23 = .ok (.iload_n 1, 1) := by decide +kernel
theorem dX5_excessWith_24 : decode cX5_excessWith 24 = .ok (.iload_n 2, 1) := by decide +kernel
theorem dX5_excessWith_25 : decode cX5_excessWith 25 = .ok (.invokevirtual 108, 3) := by decide +kernel
theorem dX5_excessWith_28 : decode cX5_excessWith 28 = .ok (.goto 5, 3) := by decide +kernel
theorem dX5_excessWith_31 : decode cX5_excessWith 31 = .ok (.bipush (-3), 2) := by decide +kernel
theorem dX5_excessWith_33 : decode cX5_excessWith 33 = .ok (.ireturn, 1) := by decide +kernel
set_option maxRecDepth 20000 in
theorem ggX5_undo_X5_copies : GoodIn wsX5_undo wsX5_copies := goodIn_r _ [6, 7, 8, 9, 10, 11, 12, 13, 14, 15, 16, 17, 18, 19] (by decide +kernel) (by decide +kernel)
set_option maxRecDepth 20000 in
theorem gX5_undo_X5_copies : GoodIn wsX5_undo (wsV RX5 32 RX5 yX5_copies wsX5_copies) := goodIn_app (goodIn_of _ (by decide +kernel)) ggX5_undo_X5_copies
theorem dX5_undo_0 : decode cX5_undo 0 = .ok (.aload_n 0, 1) := by decide +kernel
theorem dX5_undo_1 : decode cX5_undo 1 = .ok (.getfield 28, 3) := by decide +kernel
theorem dX5_undo_4 : decode cX5_undo 4 = .ok (.ifCond .ne 6, 3) := by decide +kernel
theorem dX5_undo_7 : decode cX5_undo 7 = .ok (.bipush (-4), 2) := by decide +kernel
theorem dX5_undo_9 : decode cX5_undo 9 = .ok (.ireturn, 1) := by decide +kernel
theorem dX5_undo_10 : decode cX5_undo 10 = .ok (.aload_n 0, 1) := by decide +kernel
theorem dX5_undo_11 : decode cX5_undo 11 = .ok (.aload_n 0, 1) := by decide +kernel
theorem dX5_undo_12 : decode cX5_undo 12 = .ok (.getfield 28, 3) := by decide +kernel
theorem dX5_undo_15 : decode cX5_undo 15 = .ok (.iconst 0, 1) := by decide +kernel
theorem dX5_undo_16 : decode cX5_undo 16 = .ok (.invokevirtual 32, 3) := by decide +kernel
theorem dX5_undo_19 : decode cX5_undo 19 = .ok (.aload_n 0, 1) := by decide +kernel
theorem dX5_undo_20 : decode cX5_undo 20 = .ok (.dup, 1) := by decide +kernel
theorem dX5_undo_21 : decode cX5_undo 21 = .ok (.getfield 28, 3) := by decide +kernel
theorem dX5_undo_24 : decode cX5_undo 24 = .ok (.iconst 1, 1) := by decide +kernel
theorem dX5_undo_25 : decode cX5_undo 25 = .ok (.isub, 1) := by decide +kernel
theorem dX5_undo_26 : decode cX5_undo 26 = .ok (.putfield 28, 3) := by decide +kernel
theorem dX5_undo_29 : decode cX5_undo 29 = .ok (.aload_n 0, 1) := by decide +kernel
theorem dX5_undo_30 : decode cX5_undo 30 = .ok (.getfield 28, 3) := by decide +kernel
theorem dX5_undo_33 : decode cX5_undo 33 = .ok (.ireturn, 1) := by decide +kernel
set_option maxRecDepth 20000 in
theorem ggX5_type_X5_in : GoodIn wsX5_type wsX5_in := goodIn_r _ [6] (by decide +kernel) (by decide +kernel)
set_option maxRecDepth 20000 in
theorem gX5_type_X5_in : GoodIn wsX5_type (va_wsS RX5 36 yX5_in wsX5_in) := goodIn_app (goodIn_of _ (by decide +kernel)) ggX5_type_X5_in
theorem dX5_type_0 : decode cX5_type 0 = .ok (.iload_n 1, 1) := by decide +kernel
theorem dX5_type_1 : decode cX5_type 1 = .ok (.iconst 0, 1) := by decide +kernel
theorem dX5_type_2 : decode cX5_type 2 = .ok (.sipush 255, 3) := by decide +kernel
theorem dX5_type_5 : decode cX5_type 5 = .ok (.invokestatic 36, 3) := by decide +kernel
theorem dX5_type_8 : decode cX5_type 8 = .ok (.ifCond .ne 6, 3) := by decide +kernel
theorem dX5_type_11 : decode cX5_type 11 = .ok (.bipush (-3), 2) := by decide +kernel
theorem dX5_type_13 : decode cX5_type 13 = .ok (.ireturn, 1) := by decide +kernel
theorem dX5_type_14 : decode cX5_type 14 = .ok (.aload_n 0, 1) := by decide +kernel
theorem dX5_type_15 : decode cX5_type 15 = .ok (.getfield 111, 3) := by decide +kernel
theorem dX5_type_18 : decode cX5_type 18 = .ok (.bipush 120, 2) := by decide +kernel
theorem dX5_type_20 : decode cX5_type 20 = .ok (.if_icmp .ne 6, 3) := by decide +kernel
theorem dX5_type_23 : decode cX5_type 23 = .ok (.bipush (-5), 2) := by decide +kernel
theorem dX5_type_25 : decode cX5_type 25 = .ok (.ireturn, 1) := by decide +kernel
theorem dX5_type_26 : decode cX5_type 26 = .ok (.aload_n 0, 1) := by decide +kernel
theorem dX5_type_27 : decode cX5_type 27 = .ok (.getfield 25, 3) := by decide +kernel
theorem dX5_type_30 : decode cX5_type 30 = .ok (.aload_n 0, 1) := by decide +kernel
theorem dX5_type_31 : decode cX5_type 31 = .ok (.getfield 111, 3) := by decide +kernel
theorem dX5_type_34 : decode cX5_type 34 = .ok (.iload_n 1, 1) := by decide +kernel
theorem dX5_type_35 : decode cX5_type 35 = .ok (.iastore, 1) := by decide +kernel
theorem dX5_type_36 : decode cX5_type 36 = .ok (.aload_n 0, 1) := by decide +kernel
theorem dX5_type_37 : decode cX5_type 37 = .ok (.dup, 1) := by decide +kernel
theorem dX5_type_38 : decode cX5_type 38 = .ok (.getfield 111, 3) := by decide +kernel
theorem dX5_type_41 : decode cX5_type 41 = .ok (.iconst 1, 1) := by decide +kernel
theorem dX5_type_42 : decode cX5_type 42 = .ok (.iadd, 1) := by decide +kernel
theorem dX5_type_43 : decode cX5_type 43 = .ok (.putfield 111, 3) := by decide +kernel
theorem dX5_type_46 : decode cX5_type 46 = .ok (.aload_n 0, 1) := by decide +kernel
theorem dX5_type_47 : decode cX5_type 47 = .ok (.getfield 111, 3) := by decide +kernel
theorem dX5_type_50 : decode cX5_type 50 = .ok (.ireturn, 1) := by decide +kernel
theorem dX5_clearText_0 : decode cX5_clearText 0 = .ok (.aload_n 0, 1) := by decide +kernel
theorem dX5_clearText_1 : decode cX5_clearText 1 = .ok (.getfield 111, 3) := by decide +kernel
theorem dX5_clearText_4 : decode cX5_clearText 4 = .ok (.istore_n 1, 1) := by decide +kernel
theorem dX5_clearText_5 : decode cX5_clearText 5 = .ok (.aload_n 0, 1) := by decide +kernel
theorem dX5_clearText_6 : decode cX5_clearText 6 = .ok (.iconst 0, 1) := by decide +kernel
theorem dX5_clearText_7 : decode cX5_clearText 7 = .ok (.putfield 111, 3) := by decide +kernel
theorem dX5_clearText_10 : decode cX5_clearText 10 = .ok (.iload_n 1, 1) := by decide +kernel
theorem dX5_clearText_11 : decode cX5_clearText 11 = .ok (.ireturn, 1) := by decide +kernel
theorem dX5_here_0 : decode cX5_here 0 = .ok (.aload_n 0, 1) := by decide +kernel
theorem dX5_here_1 : decode cX5_here 1 = .ok (.getfield 114, 3) := by decide +kernel
theorem dX5_here_4 : decode cX5_here 4 = .ok (.aload_n 0, 1) := by decide +kernel
theorem dX5_here_5 : decode cX5_here 5 = .ok (.getfield 111, 3) := by decide +kernel
theorem dX5_here_8 : decode cX5_here 8 = .ok (.if_icmp .ge 30, 3) := by decide +kernel
theorem dX5_here_11 : decode cX5_here 11 = .ok (.aload_n 0, 1) := by decide +kernel
theorem dX5_here_12 : decode cX5_here 12 = .ok (.getfield 25, 3) := by decide +kernel
theorem dX5_here_15 : decode cX5_here 15 = .ok (.aload_n 0, 1) := by decide +kernel
theorem dX5_here_16 : decode cX5_here 16 = .ok (.getfield 114, 3) := by decide +kernel
theorem dX5_here_19 : decode cX5_here 19 = .ok (.iaload, 1) := by decide +kernel
theorem dX5_here_20 : decode cX5_here 20 = .ok (.bipush 32, 2) := by decide +kernel
theorem dX5_here_22 : decode cX5_here 22 = .ok (.if_icmp .ne 16, 3) := by decide +kernel
theorem dX5_here_25 : decode cX5_here 25 = .ok (.aload_n 0, 1) := by decide +kernel
theorem dX5_here_26 : decode cX5_here 26 = .ok (.dup, 1) := by decide +kernel
theorem dX5_here_27 : decode cX5_here 27 = .ok (.getfield 114, 3) := by decide +kernel
theorem dX5_here_30 : decode cX5_here 30 = .ok (.iconst 1, 1) := by decide +kernel
theorem dX5_here_31 : decode cX5_here 31 = .ok (.iadd, 1) := by decide +kernel
theorem dX5_here_32 : decode cX5_here 32 = .ok (.putfield 114, 3) := by decide +kernel
theorem dX5_here_35 : decode cX5_here 35 = .ok (.goto (-35), 3) := by decide +kernel
theorem dX5_here_38 : decode cX5_here 38 = .ok (.aload_n 0, 1) := by decide +kernel
theorem dX5_here_39 : decode cX5_here 39 = .ok (.getfield 114, 3) := by decide +kernel
theorem dX5_here_42 : decode cX5_here 42 = .ok (.aload_n 0, 1) := by decide +kernel
theorem dX5_here_43 : decode cX5_here 43 = .ok (.getfield 111, 3) := by decide +kernel
theorem dX5_here_46 : decode cX5_here 46 = .ok (.if_icmp .ge 15, 3) := by decide +kernel
theorem dX5_here_49 : decode cX5_here 49 = .ok (.aload_n 0, 1) := by decide +kernel
theorem dX5_here_50 : decode cX5_here 50 = .ok (.getfield 25, 3) := by decide +kernel
theorem dX5_here_53 : decode cX5_here 53 = .ok (.aload_n 0, 1) := by decide +kernel
theorem dX5_here_54 : decode cX5_here 54 = .ok (.getfield 114, 3) := by decide +kernel
theorem dX5_here_57 : decode cX5_here 57 = .ok (.iaload, 1) := by decide +kernel
theorem dX5_here_58 : decode cX5_here 58 = .ok (.goto 4, 3) := by decide +kernel
theorem dX5_here_61 : decode cX5_here 61 = .ok (.iconst (-1), 1) := by decide +kernel
theorem dX5_here_62 : decode cX5_here 62 = .ok (.ireturn, 1) := by decide +kernel
set_option maxRecDepth 20000 in
theorem ggX5_sign_X5_here : GoodIn wsX5_sign wsX5_here := goodIn_r _ [6, 1, 7, 8, 9, 10, 11, 12, 13, 14, 15, 16, 17, 18, 19, 20] (by decide +kernel) (by decide +kernel)
set_option maxRecDepth 20000 in
theorem gX5_sign_X5_here : GoodIn wsX5_sign (wsV RX5 117 RX5 yX5_here wsX5_here) := goodIn_app (goodIn_of _ (by decide +kernel)) ggX5_sign_X5_here
theorem dX5_sign_0 : decode cX5_sign 0 = .ok (.aload_n 0, 1) := by decide +kernel
theorem dX5_sign_1 : decode cX5_sign 1 = .ok (.invokevirtual 117, 3) := by decide +kernel
theorem dX5_sign_4 : decode cX5_sign 4 = .ok (.iload_n 1, 1) := by decide +kernel
theorem dX5_sign_5 : decode cX5_sign 5 = .ok (.if_icmp .ne 7, 3) := by decide +kernel
theorem dX5_sign_8 : decode cX5_sign 8 = .ok (.iconst 1, 1) := by decide +kernel
theorem dX5_sign_9 : decode cX5_sign 9 = .ok (.goto 4, 3) := by decide +kernel
theorem dX5_sign_12 : decode cX5_sign 12 = .ok (.iconst 0, 1) := by decide +kernel
theorem dX5_sign_13 : decode cX5_sign 13 = .ok (.istore_n 2, 1) := by decide +kernel
theorem dX5_sign_14 : decode cX5_sign 14 = .ok (.aload_n 0, 1) := by decide +kernel
theorem dX5_sign_15 : decode cX5_sign 15 = .ok (.dup, 1) := by decide +kernel
theorem dX5_sign_16 : decode cX5_sign 16 = .ok (.getfield 114, 3) := by decide +kernel
theorem dX5_sign_19 : decode cX5_sign 19 = .ok (.iload_n 2, 1) := by decide +kernel
theorem dX5_sign_20 : decode cX5_sign 20 = .ok (.ifCond .eq 7, 3) := by decide +kernel
theorem dX5_sign_23 : decode cX5_sign 23 = .ok (.iconst 1, 1) := by decide +kernel
theorem dX5_sign_24 : decode cX5_sign 24 = .ok (.goto 4, 3) := by decide +kernel
theorem dX5_sign_27 : decode cX5_sign 27 = .ok (.iconst 0, 1) := by decide +kernel
theorem dX5_sign_28 : decode cX5_sign 28 = .ok (.iadd, 1) := by decide +kernel
theorem dX5_sign_29 : decode cX5_sign 29 = .ok (.putfield 114, 3) := by decide +kernel
theorem dX5_sign_32 : decode cX5_sign 32 = .ok (.iload_n 2, 1) := by decide +kernel
theorem dX5_sign_33 : decode cX5_sign 33 = .ok (.ireturn, 1) := by decide +kernel
set_option maxRecDepth 20000 in
theorem ggX5_finds_X5_here : GoodIn wsX5_finds wsX5_here := goodIn_r _ [9, 1, 2, 3, 13, 14, 15, 16, 17, 18, 19, 20, 21, 22, 23, 24] (by decide +kernel) (by decide +kernel)
set_option maxRecDepth 20000 in
theorem gX5_finds_X5_here : GoodIn wsX5_finds (wsV RX5 117 RX5 yX5_here wsX5_here) := goodIn_app (goodIn_of _ (by decide +kernel)) ggX5_finds_X5_here
set_option maxRecDepth 20000 in
theorem ggX5_finds_X5_in : GoodIn wsX5_finds wsX5_in := goodIn_r _ [12] (by decide +kernel) (by decide +kernel)
set_option maxRecDepth 20000 in
theorem gX5_finds_X5_in : GoodIn wsX5_finds (va_wsS RX5 36 yX5_in wsX5_in) := goodIn_app (goodIn_of _ (by decide +kernel)) ggX5_finds_X5_in
theorem dX5_finds_0 : decode cX5_finds 0 = .ok (.aload_n 0, 1) := by decide +kernel
theorem dX5_finds_1 : decode cX5_finds 1 = .ok (.invokevirtual 117, 3) := by decide +kernel
theorem dX5_finds_4 : decode cX5_finds 4 = .ok (.istore_n 3, 1) := by decide +kernel
theorem dX5_finds_5 : decode cX5_finds 5 = .ok (.aload_n 0, 1) := by decide +kernel
theorem dX5_finds_6 : decode cX5_finds 6 = .ok (.getfield 114, 3) := by decide +kernel
theorem dX5_finds_9 : decode cX5_finds 9 = .ok (.istore 4, 2) := by decide +kernel
theorem dX5_finds_11 : decode cX5_finds 11 = .ok (.iconst 0, 1) := by decide +kernel
theorem dX5_finds_12 : decode cX5_finds 12 = .ok (.istore 5, 2) := by decide +kernel
theorem dX5_finds_14 : decode cX5_finds 14 = .ok (.iload_n 3, 1) := by decide +kernel
theorem dX5_finds_15 : decode cX5_finds 15 = .ok (.ifCond .lt 69, 3) := by decide +kernel
theorem dX5_finds_18 : decode cX5_finds 18 = .ok (.iload 4, 2) := by decide +kernel
theorem dX5_finds_20 : decode cX5_finds 20 = .ok (.aload_n 0, 1) := by decide +kernel
theorem dX5_finds_21 : decode cX5_finds 21 = .ok (.getfield 111, 3) := by decide +kernel
theorem dX5_finds_24 : decode cX5_finds 24 = .ok (.if_icmp .ge 60, 3) := by decide +kernel
theorem dX5_finds_27 : decode cX5_finds 27 = .ok (.aload_n 0, 1) := by decide +kernel
theorem dX5_finds_28 : decode cX5_finds 28 = .ok (.getfield 25, 3) := by decide +kernel
theorem dX5_finds_31 : decode cX5_finds 31 = .ok (.iload 4, 2) := by decide +kernel
theorem dX5_finds_33 : decode cX5_finds 33 = .ok (.iaload, 1) := by decide +kernel
theorem dX5_finds_34 : decode cX5_finds 34 = .ok (.bipush 48, 2) := by decide +kernel
theorem dX5_finds_36 : decode cX5_finds 36 = .ok (.bipush 57, 2) := by decide +kernel
theorem dX5_finds_38 : decode cX5_finds 38 = .ok (.invokestatic 36, 3) := by decide +kernel
theorem dX5_finds_41 : decode cX5_finds 41 = .ok (.ifCond .eq 43, 3) := by decide +kernel
theorem dX5_finds_44 : decode cX5_finds 44 = .ok (.iload 4, 2) := by decide +kernel
theorem dX5_finds_46 : decode cX5_finds 46 = .ok (.aload_n 0, 1) := by decide +kernel
theorem dX5_finds_47 : decode cX5_finds 47 = .ok (.getfield 114, 3) := by decide +kernel
theorem dX5_finds_50 : decode cX5_finds 50 = .ok (.isub, 1) := by decide +kernel
theorem dX5_finds_51 : decode cX5_finds 51 = .ok (.iconst 5, 1) := by decide +kernel
theorem dX5_finds_52 : decode cX5_finds 52 = .ok (.if_icmp .ge 22, 3) := by decide +kernel
theorem dX5_finds_55 : decode cX5_finds 55 = .ok (.bipush 10, 2) := by decide +kernel
theorem dX5_finds_57 : decode cX5_finds 57 = .ok (.iload 5, 2) := by decide +kernel
theorem dX5_finds_59 : decode cX5_finds 59 = .ok (.imul, 1) := by decide +kernel
theorem dX5_finds_60 : decode cX5_finds 60 = .ok (.aload_n 0, 1) := by decide +kernel
theorem dX5_finds_61 : decode cX5_finds 61 = .ok (.getfield 25, 3) := by decide +kernel
theorem dX5_finds_64 : decode cX5_finds 64 = .ok (.iload 4, 2) := by decide +kernel
theorem dX5_finds_66 : decode cX5_finds 66 = .ok (.iaload, 1) := by decide +kernel
theorem dX5_finds_67 : decode cX5_finds 67 = .ok (.iadd, 1) := by decide +kernel
theorem dX5_finds_68 : decode cX5_finds 68 = .ok (.bipush 48, 2) := by decide +kernel
theorem dX5_finds_70 : decode cX5_finds 70 = .ok (.isub, 1) := by decide +kernel
theorem dX5_finds_71 : decode cX5_finds 71 = .ok (.goto 5, 3) := by decide +kernel
theorem dX5_finds_74 : decode cX5_finds 74 = .ok (.iload 5, 2) := by decide +kernel
theorem dX5_finds_76 : decode cX5_finds 76 = .ok (.istore 5, 2) := by decide +kernel
theorem dX5_finds_78 : decode cX5_finds 78 = .ok (.iinc 4 1, 3) := by decide +kernel
theorem dX5_finds_81 : decode cX5_finds 81 = .ok (.goto (-67), 3) := by decide +kernel
theorem dX5_finds_84 : decode cX5_finds 84 = .ok (.aload_n 0, 1) := by decide +kernel
theorem dX5_finds_85 : decode cX5_finds 85 = .ok (.iload 5, 2) := by decide +kernel
theorem dX5_finds_87 : decode cX5_finds 87 = .ok (.putfield 120, 3) := by decide +kernel
theorem dX5_finds_90 : decode cX5_finds 90 = .ok (.iload 4, 2) := by decide +kernel
theorem dX5_finds_92 : decode cX5_finds 92 = .ok (.aload_n 0, 1) := by decide +kernel
theorem dX5_finds_93 : decode cX5_finds 93 = .ok (.getfield 114, 3) := by decide +kernel
theorem dX5_finds_96 : decode cX5_finds 96 = .ok (.if_icmp .le 29, 3) := by decide +kernel
theorem dX5_finds_99 : decode cX5_finds 99 = .ok (.iload 4, 2) := by decide +kernel
theorem dX5_finds_101 : decode cX5_finds 101 = .ok (.aload_n 0, 1) := by decide +kernel
theorem dX5_finds_102 : decode cX5_finds 102 = .ok (.getfield 114, 3) := by decide +kernel
theorem dX5_finds_105 : decode cX5_finds 105 = .ok (.isub, 1) := by decide +kernel
theorem dX5_finds_106 : decode cX5_finds 106 = .ok (.iconst 5, 1) := by decide +kernel
theorem dX5_finds_107 : decode cX5_finds 107 = .ok (.if_icmp .ge 18, 3) := by decide +kernel
theorem dX5_finds_110 : decode cX5_finds 110 = .ok (.iload 5, 2) := by decide +kernel
theorem dX5_finds_112 : decode cX5_finds 112 = .ok (.iload_n 1, 1) := by decide +kernel
theorem dX5_finds_113 : decode cX5_finds 113 = .ok (.iload_n 2, 1) := by decide +kernel
theorem dX5_finds_114 : decode cX5_finds 114 = .ok (.invokestatic 36, 3) := by decide +kernel
theorem dX5_finds_117 : decode cX5_finds 117 = .ok (.ifCond .eq 8, 3) := by decide +kernel
theorem dX5_finds_120 : decode cX5_finds 120 = .ok (.iload 4, 2) := by decide +kernel
theorem dX5_finds_122 : decode cX5_finds 122 = .ok (.goto 4, 3) := by decide +kernel
theorem dX5_finds_125 : decode cX5_finds 125 = .ok (.iconst (-1), 1) := by decide +kernel
theorem dX5_finds_126 : decode cX5_finds 126 = .ok (.ireturn, 1) := by decide +kernel
set_option maxRecDepth 20000 in
theorem ggX5_reads_X5_finds : GoodIn wsX5_reads wsX5_finds := goodIn_r _ [6, 1, 7, 8, 9, 10, 11, 12, 5, 13, 14, 15, 16, 17, 18, 19, 20, 21, 22, 23, 24, 25, 26, 27, 28] (by decide +kernel) (by decide +kernel)
set_option maxRecDepth 20000 in
theorem gX5_reads_X5_finds : GoodIn wsX5_reads (wsV RX5 123 RX5 yX5_finds wsX5_finds) := goodIn_app (goodIn_of _ (by decide +kernel)) ggX5_reads_X5_finds
theorem dX5_reads_0 : decode cX5_reads 0 = .ok (.aload_n 0, 1) := by decide +kernel
theorem dX5_reads_1 : decode cX5_reads 1 = .ok (.iload_n 1, 1) := by decide +kernel
theorem dX5_reads_2 : decode cX5_reads 2 = .ok (.iload_n 2, 1) := by decide +kernel
theorem dX5_reads_3 : decode cX5_reads 3 = .ok (.invokevirtual 123, 3) := by decide +kernel
theorem dX5_reads_6 : decode cX5_reads 6 = .ok (.istore_n 3, 1) := by decide +kernel
theorem dX5_reads_7 : decode cX5_reads 7 = .ok (.aload_n 0, 1) := by decide +kernel
theorem dX5_reads_8 : decode cX5_reads 8 = .ok (.iload_n 3, 1) := by decide +kernel
theorem dX5_reads_9 : decode cX5_reads 9 = .ok (.iconst (-1), 1) := by decide +kernel
theorem dX5_reads_10 : decode cX5_reads 10 = .ok (.if_icmp .ne 10, 3) := by decide +kernel
theorem dX5_reads_13 : decode cX5_reads 13 = .ok (.aload_n 0, 1) := by decide +kernel
theorem dX5_reads_14 : decode cX5_reads 14 = .ok (.getfield 114, 3) := by decide +kernel
theorem dX5_reads_17 : decode cX5_reads 17 = .ok (.goto 4, 3) := by decide +kernel
theorem dX5_reads_20 : decode cX5_reads 20 = .ok (.iload_n 3, 1) := by decide +kernel
theorem dX5_reads_21 : decode cX5_reads 21 = .ok (.putfield 114, 3) := by decide +kernel
theorem dX5_reads_24 : decode cX5_reads 24 = .ok (.iload_n 3, 1) := by decide +kernel
theorem dX5_reads_25 : decode cX5_reads 25 = .ok (.iconst (-1), 1) := by decide +kernel
theorem dX5_reads_26 : decode cX5_reads 26 = .ok (.if_icmp .eq 7, 3) := by decide +kernel
theorem dX5_reads_29 : decode cX5_reads 29 = .ok (.iconst 1, 1) := by decide +kernel
theorem dX5_reads_30 : decode cX5_reads 30 = .ok (.goto 4, 3) := by decide +kernel
theorem dX5_reads_33 : decode cX5_reads 33 = .ok (.iconst 0, 1) := by decide +kernel
theorem dX5_reads_34 : decode cX5_reads 34 = .ok (.ireturn, 1) := by decide +kernel
set_option maxRecDepth 20000 in
theorem ggX5_readsSection_X5_reads : GoodIn wsX5_readsSection wsX5_reads := goodIn_r _ [8, 2, 9, 10, 11, 7, 12, 13, 14, 3, 15, 16, 17, 18, 19, 20, 21, 30, 31, 32, 33, 34, 35, 36, 37, 38, 39, 40, 41] (by decide +kernel) (by decide +kernel)
set_option maxRecDepth 20000 in
theorem gX5_readsSection_X5_reads : GoodIn wsX5_readsSection (wsV RX5 126 RX5 yX5_reads wsX5_reads) := goodIn_app (goodIn_of _ (by decide +kernel)) ggX5_readsSection_X5_reads
set_option maxRecDepth 20000 in
theorem ggX5_readsSection_X5_sign : GoodIn wsX5_readsSection wsX5_sign := goodIn_r _ [25, 2, 15, 16, 17, 7, 18, 13, 14, 30, 31, 32, 33, 34, 35, 36, 37, 38, 39, 40, 41] (by decide +kernel) (by decide +kernel)
set_option maxRecDepth 20000 in
theorem gX5_readsSection_X5_sign : GoodIn wsX5_readsSection (wsV RX5 129 RX5 yX5_sign wsX5_sign) := goodIn_app (goodIn_of _ (by decide +kernel)) ggX5_readsSection_X5_sign
set_option maxRecDepth 20000 in
theorem ggX5_readsSection_X5_lays : GoodIn wsX5_readsSection wsX5_lays := goodIn_r _ [29, 1, 30, 31, 32, 33, 34, 35, 36, 37, 38, 39, 40, 41] (by decide +kernel) (by decide +kernel)
set_option maxRecDepth 20000 in
theorem gX5_readsSection_X5_lays : GoodIn wsX5_readsSection (wsV RX5 47 RX5 yX5_lays wsX5_lays) := goodIn_app (goodIn_of _ (by decide +kernel)) ggX5_readsSection_X5_lays
theorem dX5_readsSection_0 : decode cX5_readsSection 0 = .ok (.aload_n 0, 1) := by decide +kernel
theorem dX5_readsSection_1 : decode cX5_readsSection 1 = .ok (.getfield 7, 3) := by decide +kernel
theorem dX5_readsSection_4 : decode cX5_readsSection 4 = .ok (.iconst 0, 1) := by decide +kernel
theorem dX5_readsSection_5 : decode cX5_readsSection 5 = .ok (.iaload, 1) := by decide +kernel
theorem dX5_readsSection_6 : decode cX5_readsSection 6 = .ok (.bipush 12, 2) := by decide +kernel
theorem dX5_readsSection_8 : decode cX5_readsSection 8 = .ok (.if_icmp .ne 5, 3) := by decide +kernel
theorem dX5_readsSection_11 : decode cX5_readsSection 11 = .ok (.iconst 0, 1) := by decide +kernel
theorem dX5_readsSection_12 : decode cX5_readsSection 12 = .ok (.ireturn, 1) := by decide +kernel
theorem dX5_readsSection_13 : decode cX5_readsSection 13 = .ok (.aload_n 0, 1) := by decide +kernel
theorem dX5_readsSection_14 : decode cX5_readsSection 14 = .ok (.dup, 1) := by decide +kernel
theorem dX5_readsSection_15 : decode cX5_readsSection 15 = .ok (.getfield 114, 3) := by decide +kernel
theorem dX5_readsSection_18 : decode cX5_readsSection 18 = .ok (.iconst 1, 1) := by decide +kernel
theorem dX5_readsSection_19 : decode cX5_readsSection 19 = .ok (.iadd, 1) := by decide +kernel
theorem dX5_readsSection_20 : decode cX5_readsSection 20 = .ok (.putfield 114, 3) := by decide +kernel
theorem dX5_readsSection_23 : decode cX5_readsSection 23 = .ok (.aload_n 0, 1) := by decide +kernel
theorem dX5_readsSection_24 : decode cX5_readsSection 24 = .ok (.iconst 1, 1) := by decide +kernel
theorem dX5_readsSection_25 : decode cX5_readsSection 25 = .ok (.sipush 5000, 3) := by decide +kernel
theorem dX5_readsSection_28 : decode cX5_readsSection 28 = .ok (.invokevirtual 126, 3) := by decide +kernel
theorem dX5_readsSection_31 : decode cX5_readsSection 31 = .ok (.ifCond .ne 5, 3) := by decide +kernel
theorem dX5_readsSection_34 : decode cX5_readsSection 34 = .ok (.iconst 0, 1) := by decide +kernel
theorem dX5_readsSection_35 : decode cX5_readsSection 35 = .ok (.ireturn, 1) := by decide +kernel
theorem dX5_readsSection_36 : decode cX5_readsSection 36 = .ok (.aload_n 0, 1) := by decide +kernel
theorem dX5_readsSection_37 : decode cX5_readsSection 37 = .ok (.getfield 120, 3) := by decide +kernel
theorem dX5_readsSection_40 : decode cX5_readsSection 40 = .ok (.istore_n 2, 1) := by decide +kernel
theorem dX5_readsSection_41 : decode cX5_readsSection 41 = .ok (.aload_n 0, 1) := by decide +kernel
theorem dX5_readsSection_42 : decode cX5_readsSection 42 = .ok (.bipush 47, 2) := by decide +kernel
theorem dX5_readsSection_44 : decode cX5_readsSection 44 = .ok (.invokevirtual 129, 3) := by decide +kernel
theorem dX5_readsSection_47 : decode cX5_readsSection 47 = .ok (.ifCond .eq 14, 3) := by decide +kernel
theorem dX5_readsSection_50 : decode cX5_readsSection 50 = .ok (.aload_n 0, 1) := by decide +kernel
theorem dX5_readsSection_51 : decode cX5_readsSection 51 = .ok (.iconst 1, 1) := by decide +kernel
theorem dX5_readsSection_52 : decode cX5_readsSection 52 = .ok (.sipush 5000, 3) := by decide +kernel
theorem dX5_readsSection_55 : decode cX5_readsSection 55 = .ok (.invokevirtual 126, 3) := by decide +kernel
theorem dX5_readsSection_58 : decode cX5_readsSection 58 = .ok (.ifCond .ne 5, 3) := by decide +kernel
theorem dX5_readsSection_61 : decode cX5_readsSection 61 = .ok (.iconst 0, 1) := by decide +kernel
theorem dX5_readsSection_62 : decode cX5_readsSection 62 = .ok (.ireturn, 1) := by decide +kernel
theorem dX5_readsSection_63 : decode cX5_readsSection 63 = .ok (.aload_n 0, 1) := by decide +kernel
theorem dX5_readsSection_64 : decode cX5_readsSection 64 = .ok (.getfield 120, 3) := by decide +kernel
theorem dX5_readsSection_67 : decode cX5_readsSection 67 = .ok (.istore_n 3, 1) := by decide +kernel
theorem dX5_readsSection_68 : decode cX5_readsSection 68 = .ok (.aload_n 0, 1) := by decide +kernel
theorem dX5_readsSection_69 : decode cX5_readsSection 69 = .ok (.iconst 0, 1) := by decide +kernel
theorem dX5_readsSection_70 : decode cX5_readsSection 70 = .ok (.putfield 120, 3) := by decide +kernel
theorem dX5_readsSection_73 : decode cX5_readsSection 73 = .ok (.aload_n 0, 1) := by decide +kernel
theorem dX5_readsSection_74 : decode cX5_readsSection 74 = .ok (.bipush 45, 2) := by decide +kernel
theorem dX5_readsSection_76 : decode cX5_readsSection 76 = .ok (.invokevirtual 129, 3) := by decide +kernel
theorem dX5_readsSection_79 : decode cX5_readsSection 79 = .ok (.ifCond .eq 16, 3) := by decide +kernel
theorem dX5_readsSection_82 : decode cX5_readsSection 82 = .ok (.aload_n 0, 1) := by decide +kernel
theorem dX5_readsSection_83 : decode cX5_readsSection 83 = .ok (.iconst 0, 1) := by decide +kernel
theorem dX5_readsSection_84 : decode cX5_readsSection 84 = .ok (.sipush 500, 3) := by decide +kernel
theorem dX5_readsSection_87 : decode cX5_readsSection 87 = .ok (.invokevirtual 126, 3) := by decide +kernel
theorem dX5_readsSection_90 : decode cX5_readsSection 90 = .ok (.ifCond .ne 5, 3) := by decide +kernel
theorem dX5_readsSection_93 : decode cX5_readsSection 93 = .ok (.iconst 0, 1) := by decide +kernel
theorem dX5_readsSection_94 : decode cX5_readsSection 94 = .ok (.ireturn, 1) := by decide +kernel
theorem dX5_readsSection_95 : decode cX5_readsSection 95 = .ok (.aload_n 0, 1) := by decide +kernel
theorem dX5_readsSection_96 : decode cX5_readsSection 96 = .ok (.iload_n 2, 1) := by decide +kernel
theorem dX5_readsSection_97 : decode cX5_readsSection 97 = .ok (.iload_n 3, 1) := by decide +kernel
theorem dX5_readsSection_98 : decode cX5_readsSection 98 = .ok (.aload_n 0, 1) := by decide +kernel
theorem dX5_readsSection_99 : decode cX5_readsSection 99 = .ok (.getfield 120, 3) := by decide +kernel
theorem dX5_readsSection_102 : decode cX5_readsSection 102 = .ok (.iload_n 1, 1) := by decide +kernel
theorem dX5_readsSection_103 : decode cX5_readsSection 103 = .ok (.invokevirtual 47, 3) := by decide +kernel
theorem dX5_readsSection_106 : decode cX5_readsSection 106 = .ok (.iconst 1, 1) := by decide +kernel
theorem dX5_readsSection_107 : decode cX5_readsSection 107 = .ok (.ireturn, 1) := by decide +kernel
set_option maxRecDepth 20000 in
theorem ggX5_readsJoint_X5_reads : GoodIn wsX5_readsJoint wsX5_reads := goodIn_r _ [8, 3, 9, 10, 11, 7, 12, 13, 14, 2, 15, 16, 17, 18, 19, 20, 21, 34, 35, 36, 37, 38, 39, 40, 41, 42, 43, 44, 45] (by decide +kernel) (by decide +kernel)
set_option maxRecDepth 20000 in
theorem gX5_readsJoint_X5_reads : GoodIn wsX5_readsJoint (wsV RX5 126 RX5 yX5_reads wsX5_reads) := goodIn_app (goodIn_of _ (by decide +kernel)) ggX5_readsJoint_X5_reads
set_option maxRecDepth 20000 in
theorem ggX5_readsJoint_X5_sign : GoodIn wsX5_readsJoint wsX5_sign := goodIn_r _ [25, 3, 15, 16, 17, 7, 18, 13, 14, 34, 35, 36, 37, 38, 39, 40, 41, 42, 43, 44, 45] (by decide +kernel) (by decide +kernel)
set_option maxRecDepth 20000 in
theorem gX5_readsJoint_X5_sign : GoodIn wsX5_readsJoint (wsV RX5 129 RX5 yX5_sign wsX5_sign) := goodIn_app (goodIn_of _ (by decide +kernel)) ggX5_readsJoint_X5_sign
set_option maxRecDepth 20000 in
theorem ggX5_readsJoint_X5_finds : GoodIn wsX5_readsJoint wsX5_finds := goodIn_r _ [12, 3, 13, 14, 2, 15, 16, 17, 7, 18, 19, 20, 21, 34, 35, 36, 37, 38, 39, 40, 41, 42, 43, 44, 45] (by decide +kernel) (by decide +kernel)
set_option maxRecDepth 20000 in
theorem gX5_readsJoint_X5_finds : GoodIn wsX5_readsJoint (wsV RX5 123 RX5 yX5_finds wsX5_finds) := goodIn_app (goodIn_of _ (by decide +kernel)) ggX5_readsJoint_X5_finds
set_option maxRecDepth 20000 in
theorem ggX5_readsJoint_X5_areNeighbours : GoodIn wsX5_readsJoint wsX5_areNeighbours := goodIn_r _ [29, 1, 34, 35, 36, 37, 38, 39, 40, 41, 42, 43, 44, 45] (by decide +kernel) (by decide +kernel)
set_option maxRecDepth 20000 in
theorem gX5_readsJoint_X5_areNeighbours : GoodIn wsX5_readsJoint (wsV RX5 63 RX5 yX5_areNeighbours wsX5_areNeighbours) := goodIn_app (goodIn_of _ (by decide +kernel)) ggX5_readsJoint_X5_areNeighbours
set_option maxRecDepth 20000 in
theorem ggX5_readsJoint_X5_joins : GoodIn wsX5_readsJoint wsX5_joins := goodIn_r _ [33, 1, 34, 35, 36, 37, 38, 39, 40, 41, 42, 43, 44, 45] (by decide +kernel) (by decide +kernel)
set_option maxRecDepth 20000 in
theorem gX5_readsJoint_X5_joins : GoodIn wsX5_readsJoint (wsV RX5 66 RX5 yX5_joins wsX5_joins) := goodIn_app (goodIn_of _ (by decide +kernel)) ggX5_readsJoint_X5_joins
theorem dX5_readsJoint_0 : decode cX5_readsJoint 0 = .ok (.aload_n 0, 1) := by decide +kernel
theorem dX5_readsJoint_1 : decode cX5_readsJoint 1 = .ok (.getfield 7, 3) := by decide +kernel
theorem dX5_readsJoint_4 : decode cX5_readsJoint 4 = .ok (.iconst 1, 1) := by decide +kernel
theorem dX5_readsJoint_5 : decode cX5_readsJoint 5 = .ok (.iaload, 1) := by decide +kernel
theorem dX5_readsJoint_6 : decode cX5_readsJoint 6 = .ok (.bipush 20, 2) := by decide +kernel
theorem dX5_readsJoint_8 : decode cX5_readsJoint 8 = .ok (.if_icmp .eq 19, 3) := by decide +kernel
theorem dX5_readsJoint_11 : decode cX5_readsJoint 11 = .ok (.aload_n 0, 1) := by decide +kernel
theorem dX5_readsJoint_12 : decode cX5_readsJoint 12 = .ok (.iconst 0, 1) := by decide +kernel
theorem dX5_readsJoint_13 : decode cX5_readsJoint 13 = .ok (.aload_n 0, 1) := by decide +kernel
theorem dX5_readsJoint_14 : decode cX5_readsJoint 14 = .ok (.getfield 7, 3) := by decide +kernel
theorem dX5_readsJoint_17 : decode cX5_readsJoint 17 = .ok (.iconst 0, 1) := by decide +kernel
theorem dX5_readsJoint_18 : decode cX5_readsJoint 18 = .ok (.iaload, 1) := by decide +kernel
theorem dX5_readsJoint_19 : decode cX5_readsJoint 19 = .ok (.iconst 1, 1) := by decide +kernel
theorem dX5_readsJoint_20 : decode cX5_readsJoint 20 = .ok (.isub, 1) := by decide +kernel
theorem dX5_readsJoint_21 : decode cX5_readsJoint 21 = .ok (.invokevirtual 126, 3) := by decide +kernel
theorem dX5_readsJoint_24 : decode cX5_readsJoint 24 = .ok (.ifCond .ne 5, 3) := by decide +kernel
theorem dX5_readsJoint_27 : decode cX5_readsJoint 27 = .ok (.iconst 0, 1) := by decide +kernel
theorem dX5_readsJoint_28 : decode cX5_readsJoint 28 = .ok (.ireturn, 1) := by decide +kernel
theorem dX5_readsJoint_29 : decode cX5_readsJoint 29 = .ok (.aload_n 0, 1) := by decide +kernel
theorem dX5_readsJoint_30 : decode cX5_readsJoint 30 = .ok (.getfield 120, 3) := by decide +kernel
theorem dX5_readsJoint_33 : decode cX5_readsJoint 33 = .ok (.istore_n 1, 1) := by decide +kernel
theorem dX5_readsJoint_34 : decode cX5_readsJoint 34 = .ok (.aload_n 0, 1) := by decide +kernel
theorem dX5_readsJoint_35 : decode cX5_readsJoint 35 = .ok (.bipush 61, 2) := by decide +kernel
theorem dX5_readsJoint_37 : decode cX5_readsJoint 37 = .ok (.invokevirtual 129, 3) := by decide +kernel
theorem dX5_readsJoint_40 : decode cX5_readsJoint 40 = .ok (.ifCond .ne 5, 3) := by decide +kernel
theorem dX5_readsJoint_43 : decode cX5_readsJoint 43 = .ok (.iconst 0, 1) := by decide +kernel
theorem dX5_readsJoint_44 : decode cX5_readsJoint 44 = .ok (.ireturn, 1) := by decide +kernel
theorem dX5_readsJoint_45 : decode cX5_readsJoint 45 = .ok (.aload_n 0, 1) := by decide +kernel
theorem dX5_readsJoint_46 : decode cX5_readsJoint 46 = .ok (.iconst 0, 1) := by decide +kernel
theorem dX5_readsJoint_47 : decode cX5_readsJoint 47 = .ok (.aload_n 0, 1) := by decide +kernel
theorem dX5_readsJoint_48 : decode cX5_readsJoint 48 = .ok (.getfield 7, 3) := by decide +kernel
theorem dX5_readsJoint_51 : decode cX5_readsJoint 51 = .ok (.iconst 0, 1) := by decide +kernel
theorem dX5_readsJoint_52 : decode cX5_readsJoint 52 = .ok (.iaload, 1) := by decide +kernel
theorem dX5_readsJoint_53 : decode cX5_readsJoint 53 = .ok (.iconst 1, 1) := by decide +kernel
theorem dX5_readsJoint_54 : decode cX5_readsJoint 54 = .ok (.isub, 1) := by decide +kernel
theorem dX5_readsJoint_55 : decode cX5_readsJoint 55 = .ok (.invokevirtual 123, 3) := by decide +kernel
theorem dX5_readsJoint_58 : decode cX5_readsJoint 58 = .ok (.istore_n 2, 1) := by decide +kernel
theorem dX5_readsJoint_59 : decode cX5_readsJoint 59 = .ok (.iload_n 2, 1) := by decide +kernel
theorem dX5_readsJoint_60 : decode cX5_readsJoint 60 = .ok (.iconst (-1), 1) := by decide +kernel
theorem dX5_readsJoint_61 : decode cX5_readsJoint 61 = .ok (.if_icmp .eq 23, 3) := by decide +kernel
theorem dX5_readsJoint_64 : decode cX5_readsJoint 64 = .ok (.aload_n 0, 1) := by decide +kernel
theorem dX5_readsJoint_65 : decode cX5_readsJoint 65 = .ok (.getfield 120, 3) := by decide +kernel
theorem dX5_readsJoint_68 : decode cX5_readsJoint 68 = .ok (.iload_n 1, 1) := by decide +kernel
theorem dX5_readsJoint_69 : decode cX5_readsJoint 69 = .ok (.if_icmp .eq 15, 3) := by decide +kernel
theorem dX5_readsJoint_72 : decode cX5_readsJoint 72 = .ok (.aload_n 0, 1) := by decide +kernel
theorem dX5_readsJoint_73 : decode cX5_readsJoint 73 = .ok (.iload_n 1, 1) := by decide +kernel
theorem dX5_readsJoint_74 : decode cX5_readsJoint 74 = .ok (.aload_n 0, 1) := by decide +kernel
theorem dX5_readsJoint_75 : decode cX5_readsJoint 75 = .ok (.getfield 120, 3) := by decide +kernel
theorem dX5_readsJoint_78 : decode cX5_readsJoint 78 = .ok (.invokevirtual 63, 3) := by decide +kernel
theorem dX5_readsJoint_81 : decode cX5_readsJoint 81 = .ok (.ifCond .eq 5, 3) := by decide +kernel
theorem dX5_readsJoint_84 : decode cX5_readsJoint 84 = .ok (.iconst 0, 1) := by decide +kernel
theorem dX5_readsJoint_85 : decode cX5_readsJoint 85 = .ok (.ireturn, 1) := by decide +kernel
theorem dX5_readsJoint_86 : decode cX5_readsJoint 86 = .ok (.aload_n 0, 1) := by decide +kernel
theorem dX5_readsJoint_87 : decode cX5_readsJoint 87 = .ok (.iload_n 2, 1) := by decide +kernel
theorem dX5_readsJoint_88 : decode cX5_readsJoint 88 = .ok (.putfield 114, 3) := by decide +kernel
theorem dX5_readsJoint_91 : decode cX5_readsJoint 91 = .ok (.aload_n 0, 1) := by decide +kernel
theorem dX5_readsJoint_92 : decode cX5_readsJoint 92 = .ok (.iload_n 1, 1) := by decide +kernel
theorem dX5_readsJoint_93 : decode cX5_readsJoint 93 = .ok (.aload_n 0, 1) := by decide +kernel
theorem dX5_readsJoint_94 : decode cX5_readsJoint 94 = .ok (.getfield 120, 3) := by decide +kernel
theorem dX5_readsJoint_97 : decode cX5_readsJoint 97 = .ok (.invokevirtual 66, 3) := by decide +kernel
theorem dX5_readsJoint_100 : decode cX5_readsJoint 100 = .ok (.iconst 1, 1) := by decide +kernel
theorem dX5_readsJoint_101 : decode cX5_readsJoint 101 = .ok (.ireturn, 1) := by decide +kernel
set_option maxRecDepth 20000 in
theorem ggX5_readsItem_X5_here : GoodIn wsX5_readsItem wsX5_here := goodIn_r _ [6, 7, 8, 9, 47, 48, 49, 50, 51, 52, 53, 54, 55, 56, 57, 58] (by decide +kernel) (by decide +kernel)
set_option maxRecDepth 20000 in
theorem gX5_readsItem_X5_here : GoodIn wsX5_readsItem (wsV RX5 117 RX5 yX5_here wsX5_here) := goodIn_app (goodIn_of _ (by decide +kernel)) ggX5_readsItem_X5_here
set_option maxRecDepth 20000 in
theorem ggX5_readsItem_X5_readsSection : GoodIn wsX5_readsItem wsX5_readsSection := goodIn_r _ [13, 14, 7, 15, 16, 17, 18, 5, 19, 20, 21, 22, 23, 8, 9, 2, 3, 4, 6, 24, 25, 26, 27, 28, 29, 30, 31, 32, 33, 34, 47, 48, 49, 50, 51, 52, 53, 54, 55, 56, 57, 58] (by decide +kernel) (by decide +kernel)
set_option maxRecDepth 20000 in
theorem gX5_readsItem_X5_readsSection : GoodIn wsX5_readsItem (wsV RX5 135 RX5 yX5_readsSection wsX5_readsSection) := goodIn_app (goodIn_of _ (by decide +kernel)) ggX5_readsItem_X5_readsSection
set_option maxRecDepth 20000 in
theorem ggX5_readsItem_X5_readsJoint : GoodIn wsX5_readsItem wsX5_readsJoint := goodIn_r _ [38, 14, 15, 7, 16, 17, 18, 5, 19, 20, 21, 22, 23, 8, 9, 2, 3, 4, 6, 24, 25, 26, 27, 28, 29, 30, 39, 40, 41, 42, 43, 44, 45, 46, 47, 48, 49, 50, 51, 52, 53, 54, 55, 56, 57, 58] (by decide +kernel) (by decide +kernel)
set_option maxRecDepth 20000 in
theorem gX5_readsItem_X5_readsJoint : GoodIn wsX5_readsItem (wsV RX5 138 RX5 yX5_readsJoint wsX5_readsJoint) := goodIn_app (goodIn_of _ (by decide +kernel)) ggX5_readsItem_X5_readsJoint
theorem dX5_readsItem_0 : decode cX5_readsItem 0 = .ok (.aload_n 0, 1) := by decide +kernel
theorem dX5_readsItem_1 : decode cX5_readsItem 1 = .ok (.invokevirtual 117, 3) := by decide +kernel
theorem dX5_readsItem_4 : decode cX5_readsItem 4 = .ok (.istore_n 1, 1) := by decide +kernel
theorem dX5_readsItem_5 : decode cX5_readsItem 5 = .ok (.aload_n 0, 1) := by decide +kernel
theorem dX5_readsItem_6 : decode cX5_readsItem 6 = .ok (.dup, 1) := by decide +kernel
theorem dX5_readsItem_7 : decode cX5_readsItem 7 = .ok (.getfield 132, 3) := by decide +kernel
theorem dX5_readsItem_10 : decode cX5_readsItem 10 = .ok (.iconst 1, 1) := by decide +kernel
theorem dX5_readsItem_11 : decode cX5_readsItem 11 = .ok (.iadd, 1) := by decide +kernel
theorem dX5_readsItem_12 : decode cX5_readsItem 12 = .ok (.putfield 132, 3) := by decide +kernel
theorem dX5_readsItem_15 : decode cX5_readsItem 15 = .ok (.iload_n 1, 1) := by decide +kernel
theorem dX5_readsItem_16 : decode cX5_readsItem 16 = .ok (.bipush 99, 2) := by decide +kernel
theorem dX5_readsItem_18 : decode cX5_readsItem 18 = .ok (.if_icmp .eq 9, 3) := by decide +kernel
theorem dX5_readsItem_21 : decode cX5_readsItem 21 = .ok (.iload_n 1, 1) := by decide +kernel
theorem dX5_readsItem_22 : decode cX5_readsItem 22 = .ok (.bipush 102, 2) := by decide +kernel
theorem dX5_readsItem_24 : decode cX5_readsItem 24 = .ok (.if_icmp .ne 21, 3) := by decide +kernel
theorem dX5_readsItem_27 : decode cX5_readsItem 27 = .ok (.aload_n 0, 1) := by decide +kernel
theorem dX5_readsItem_28 : decode cX5_readsItem 28 = .ok (.iload_n 1, 1) := by decide +kernel
theorem dX5_readsItem_29 : decode cX5_readsItem 29 = .ok (.bipush 102, 2) := by decide +kernel
theorem dX5_readsItem_31 : decode cX5_readsItem 31 = .ok (.if_icmp .ne 7, 3) := by decide +kernel
theorem dX5_readsItem_34 : decode cX5_readsItem 34 = .ok (.iconst 1, 1) := by decide +kernel
theorem dX5_readsItem_35 : decode cX5_readsItem 35 = .ok (.goto 4, 3) := by decide +kernel
theorem dX5_readsItem_38 : decode cX5_readsItem 38 = .ok (.iconst 0, 1) := by decide +kernel
theorem dX5_readsItem_39 : decode cX5_readsItem 39 = .ok (.invokevirtual 135, 3) := by decide +kernel
theorem dX5_readsItem_42 : decode cX5_readsItem 42 = .ok (.goto 7, 3) := by decide +kernel
theorem dX5_readsItem_45 : decode cX5_readsItem 45 = .ok (.aload_n 0, 1) := by decide +kernel
theorem dX5_readsItem_46 : decode cX5_readsItem 46 = .ok (.invokevirtual 138, 3) := by decide +kernel
theorem dX5_readsItem_49 : decode cX5_readsItem 49 = .ok (.ireturn, 1) := by decide +kernel
set_option maxRecDepth 20000 in
theorem ggX5_readsText_X5_readsItem : GoodIn wsX5_readsText wsX5_readsItem := goodIn_r _ [7, 2, 8, 9, 10, 6, 11, 1, 12, 13, 14, 15, 16, 17, 18, 19, 20, 21, 22, 23, 24, 25, 26, 27, 28, 29, 30, 31, 32, 33, 34, 35, 36, 37, 38, 39, 40, 41, 42, 43, 44, 45, 46, 47, 48, 49, 50, 51, 52, 53, 54, 55, 56, 57, 58, 59, 60, 61, 62] (by decide +kernel) (by decide +kernel)
set_option maxRecDepth 20000 in
theorem gX5_readsText_X5_readsItem : GoodIn wsX5_readsText (wsV RX5 141 RX5 yX5_readsItem wsX5_readsItem) := goodIn_app (goodIn_of _ (by decide +kernel)) ggX5_readsText_X5_readsItem
set_option maxRecDepth 20000 in
theorem ggX5_readsText_X5_here : GoodIn wsX5_readsText wsX5_here := goodIn_r _ [11, 1, 12, 13, 51, 52, 53, 54, 55, 56, 57, 58, 59, 60, 61, 62] (by decide +kernel) (by decide +kernel)
set_option maxRecDepth 20000 in
theorem gX5_readsText_X5_here : GoodIn wsX5_readsText (wsV RX5 117 RX5 yX5_here wsX5_here) := goodIn_app (goodIn_of _ (by decide +kernel)) ggX5_readsText_X5_here
set_option maxRecDepth 20000 in
theorem ggX5_readsText_X5_sign : GoodIn wsX5_readsText wsX5_sign := goodIn_r _ [34, 1, 8, 9, 10, 6, 11, 12, 13, 51, 52, 53, 54, 55, 56, 57, 58, 59, 60, 61, 62] (by decide +kernel) (by decide +kernel)
set_option maxRecDepth 20000 in
theorem gX5_readsText_X5_sign : GoodIn wsX5_readsText (wsV RX5 129 RX5 yX5_sign wsX5_sign) := goodIn_app (goodIn_of _ (by decide +kernel)) ggX5_readsText_X5_sign
theorem dX5_readsText_0 : decode cX5_readsText 0 = .ok (.aload_n 0, 1) := by decide +kernel
theorem dX5_readsText_1 : decode cX5_readsText 1 = .ok (.iconst 0, 1) := by decide +kernel
theorem dX5_readsText_2 : decode cX5_readsText 2 = .ok (.putfield 114, 3) := by decide +kernel
theorem dX5_readsText_5 : decode cX5_readsText 5 = .ok (.aload_n 0, 1) := by decide +kernel
theorem dX5_readsText_6 : decode cX5_readsText 6 = .ok (.iconst 0, 1) := by decide +kernel
theorem dX5_readsText_7 : decode cX5_readsText 7 = .ok (.putfield 132, 3) := by decide +kernel
theorem dX5_readsText_10 : decode cX5_readsText 10 = .ok (.aload_n 0, 1) := by decide +kernel
theorem dX5_readsText_11 : decode cX5_readsText 11 = .ok (.invokevirtual 141, 3) := by decide +kernel
theorem dX5_readsText_14 : decode cX5_readsText 14 = .ok (.istore_n 1, 1) := by decide +kernel
theorem dX5_readsText_15 : decode cX5_readsText 15 = .ok (.aload_n 0, 1) := by decide +kernel
theorem dX5_readsText_16 : decode cX5_readsText 16 = .ok (.invokevirtual 117, 3) := by decide +kernel
theorem dX5_readsText_19 : decode cX5_readsText 19 = .ok (.istore_n 2, 1) := by decide +kernel
theorem dX5_readsText_20 : decode cX5_readsText 20 = .ok (.iload_n 1, 1) := by decide +kernel
theorem dX5_readsText_21 : decode cX5_readsText 21 = .ok (.ifCond .eq 38, 3) := by decide +kernel
theorem dX5_readsText_24 : decode cX5_readsText 24 = .ok (.iload_n 2, 1) := by decide +kernel
theorem dX5_readsText_25 : decode cX5_readsText 25 = .ok (.iconst (-1), 1) := by decide +kernel
theorem dX5_readsText_26 : decode cX5_readsText 26 = .ok (.if_icmp .eq 33, 3) := by decide +kernel
theorem dX5_readsText_29 : decode cX5_readsText 29 = .ok (.aload_n 0, 1) := by decide +kernel
theorem dX5_readsText_30 : decode cX5_readsText 30 = .ok (.bipush 59, 2) := by decide +kernel
theorem dX5_readsText_32 : decode cX5_readsText 32 = .ok (.invokevirtual 129, 3) := by decide +kernel
theorem dX5_readsText_35 : decode cX5_readsText 35 = .ok (.ifCond .eq 14, 3) := by decide +kernel
theorem dX5_readsText_38 : decode cX5_readsText 38 = .ok (.aload_n 0, 1) := by decide +kernel
theorem dX5_readsText_39 : decode cX5_readsText 39 = .ok (.invokevirtual 141, 3) := by decide +kernel
theorem dX5_readsText_42 : decode cX5_readsText 42 = .ok (.ifCond .eq 7, 3) := by decide +kernel
theorem dX5_readsText_45 : decode cX5_readsText 45 = .ok (.iconst 1, 1) := by decide +kernel
theorem dX5_readsText_46 : decode cX5_readsText 46 = .ok (.goto 4, 3) := by decide +kernel
theorem dX5_readsText_49 : decode cX5_readsText 49 = .ok (.iconst 0, 1) := by decide +kernel
theorem dX5_readsText_50 : decode cX5_readsText 50 = .ok (.istore_n 1, 1) := by decide +kernel
theorem dX5_readsText_51 : decode cX5_readsText 51 = .ok (.aload_n 0, 1) := by decide +kernel
theorem dX5_readsText_52 : decode cX5_readsText 52 = .ok (.invokevirtual 117, 3) := by decide +kernel
theorem dX5_readsText_55 : decode cX5_readsText 55 = .ok (.istore_n 2, 1) := by decide +kernel
theorem dX5_readsText_56 : decode cX5_readsText 56 = .ok (.goto (-36), 3) := by decide +kernel
theorem dX5_readsText_59 : decode cX5_readsText 59 = .ok (.iload_n 1, 1) := by decide +kernel
theorem dX5_readsText_60 : decode cX5_readsText 60 = .ok (.ireturn, 1) := by decide +kernel
set_option maxRecDepth 20000 in
theorem ggX5_textFault_X5_copies : GoodIn wsX5_textFault wsX5_copies := goodIn_r _ [6, 7, 59, 60, 61, 62, 63, 64, 65, 66, 67, 68, 69, 70] (by decide +kernel) (by decide +kernel)
set_option maxRecDepth 20000 in
theorem gX5_textFault_X5_copies : GoodIn wsX5_textFault (wsV RX5 32 RX5 yX5_copies wsX5_copies) := goodIn_app (goodIn_of _ (by decide +kernel)) ggX5_textFault_X5_copies
set_option maxRecDepth 20000 in
theorem ggX5_textFault_X5_readsText : GoodIn wsX5_textFault wsX5_readsText := goodIn_r _ [11, 1, 12, 13, 14, 15, 5, 16, 17, 18, 19, 20, 21, 22, 23, 24, 25, 26, 7, 27, 28, 29, 30, 31, 32, 33, 34, 35, 36, 37, 38, 39, 40, 41, 42, 43, 44, 45, 46, 47, 48, 49, 50, 51, 52, 53, 54, 55, 56, 57, 58, 59, 60, 61, 62, 63, 64, 65, 66, 67, 68, 69, 70] (by decide +kernel) (by decide +kernel)
set_option maxRecDepth 20000 in
theorem gX5_textFault_X5_readsText : GoodIn wsX5_textFault (wsV RX5 144 RX5 yX5_readsText wsX5_readsText) := goodIn_app (goodIn_of _ (by decide +kernel)) ggX5_textFault_X5_readsText
theorem dX5_textFault_0 : decode cX5_textFault 0 = .ok (.aload_n 0, 1) := by decide +kernel
theorem dX5_textFault_1 : decode cX5_textFault 1 = .ok (.iconst 0, 1) := by decide +kernel
theorem dX5_textFault_2 : decode cX5_textFault 2 = .ok (.bipush 6, 2) := by decide +kernel
theorem dX5_textFault_4 : decode cX5_textFault 4 = .ok (.invokevirtual 32, 3) := by decide +kernel
theorem dX5_textFault_7 : decode cX5_textFault 7 = .ok (.aload_n 0, 1) := by decide +kernel
theorem dX5_textFault_8 : decode cX5_textFault 8 = .ok (.invokevirtual 144, 3) := by decide +kernel
theorem dX5_textFault_11 : decode cX5_textFault 11 = .ok (.istore_n 1, 1) := by decide +kernel
theorem dX5_textFault_12 : decode cX5_textFault 12 = .ok (.aload_n 0, 1) := by decide +kernel
theorem dX5_textFault_13 : decode cX5_textFault 13 = .ok (.bipush 6, 2) := by decide +kernel
theorem dX5_textFault_15 : decode cX5_textFault 15 = .ok (.iconst 0, 1) := by decide +kernel
theorem dX5_textFault_16 : decode cX5_textFault 16 = .ok (.invokevirtual 32, 3) := by decide +kernel
theorem dX5_textFault_19 : decode cX5_textFault 19 = .ok (.iload_n 1, 1) := by decide +kernel
theorem dX5_textFault_20 : decode cX5_textFault 20 = .ok (.ifCond .eq 7, 3) := by decide +kernel
theorem dX5_textFault_23 : decode cX5_textFault 23 = .ok (.iconst (-1), 1) := by decide +kernel
theorem dX5_textFault_24 : decode cX5_textFault 24 = .ok (.goto 7, 3) := by decide +kernel
theorem dX5_textFault_27 : decode cX5_textFault 27 = .ok (.aload_n 0, 1) := by decide +kernel
theorem dX5_textFault_28 : decode cX5_textFault 28 = .ok (.getfield 114, 3) := by decide +kernel
theorem dX5_textFault_31 : decode cX5_textFault 31 = .ok (.ireturn, 1) := by decide +kernel
set_option maxRecDepth 20000 in
theorem ggX5_load_X5_textFault : GoodIn wsX5_load wsX5_textFault := goodIn_r _ [6, 7, 8, 9, 10, 5, 11, 12, 13, 14, 15, 16, 1, 17, 18, 19, 20, 21, 22, 23, 24, 25, 26, 27, 28, 29, 30, 31, 32, 33, 34, 35, 36, 37, 38, 39, 40, 41, 42, 43, 44, 45, 46, 47, 48, 49, 50, 51, 52, 53, 54, 55, 56, 57, 58, 59, 60, 61, 62, 68, 69, 70, 71, 72, 73, 74, 75, 76, 77, 78, 79] (by decide +kernel) (by decide +kernel)
set_option maxRecDepth 20000 in
theorem gX5_load_X5_textFault : GoodIn wsX5_load (wsV RX5 147 RX5 yX5_textFault wsX5_textFault) := goodIn_app (goodIn_of _ (by decide +kernel)) ggX5_load_X5_textFault
set_option maxRecDepth 20000 in
theorem ggX5_load_X5_saves : GoodIn wsX5_load wsX5_saves := goodIn_r _ [66, 67, 8, 9, 10, 5, 11, 12, 68, 69, 70, 71, 72, 73, 74, 75, 76, 77, 78, 79] (by decide +kernel) (by decide +kernel)
set_option maxRecDepth 20000 in
theorem gX5_load_X5_saves : GoodIn wsX5_load (wsV RX5 44 RX5 yX5_saves wsX5_saves) := goodIn_app (goodIn_of _ (by decide +kernel)) ggX5_load_X5_saves
set_option maxRecDepth 20000 in
theorem ggX5_load_X5_readsText : GoodIn wsX5_load wsX5_readsText := goodIn_r _ [16, 7, 1, 17, 18, 19, 5, 20, 21, 22, 23, 24, 25, 26, 27, 28, 29, 30, 12, 31, 32, 33, 34, 35, 36, 37, 38, 39, 40, 41, 42, 43, 44, 45, 46, 47, 48, 49, 50, 51, 52, 53, 54, 55, 56, 57, 58, 59, 60, 61, 62, 68, 69, 70, 71, 72, 73, 74, 75, 76, 77, 78, 79] (by decide +kernel) (by decide +kernel)
set_option maxRecDepth 20000 in
theorem gX5_load_X5_readsText : GoodIn wsX5_load (wsV RX5 144 RX5 yX5_readsText wsX5_readsText) := goodIn_app (goodIn_of _ (by decide +kernel)) ggX5_load_X5_readsText
theorem dX5_load_0 : decode cX5_load 0 = .ok (.aload_n 0, 1) := by decide +kernel
theorem dX5_load_1 : decode cX5_load 1 = .ok (.invokevirtual 147, 3) := by decide +kernel
theorem dX5_load_4 : decode cX5_load 4 = .ok (.iconst (-1), 1) := by decide +kernel
theorem dX5_load_5 : decode cX5_load 5 = .ok (.if_icmp .eq 6, 3) := by decide +kernel
theorem dX5_load_8 : decode cX5_load 8 = .ok (.bipush (-4), 2) := by decide +kernel
theorem dX5_load_10 : decode cX5_load 10 = .ok (.ireturn, 1) := by decide +kernel
theorem dX5_load_11 : decode cX5_load 11 = .ok (.aload_n 0, 1) := by decide +kernel
theorem dX5_load_12 : decode cX5_load 12 = .ok (.invokevirtual 44, 3) := by decide +kernel
theorem dX5_load_15 : decode cX5_load 15 = .ok (.aload_n 0, 1) := by decide +kernel
theorem dX5_load_16 : decode cX5_load 16 = .ok (.invokevirtual 144, 3) := by decide +kernel
theorem dX5_load_19 : decode cX5_load 19 = .ok (.istore_n 1, 1) := by decide +kernel
theorem dX5_load_20 : decode cX5_load 20 = .ok (.aload_n 0, 1) := by decide +kernel
theorem dX5_load_21 : decode cX5_load 21 = .ok (.getfield 132, 3) := by decide +kernel
theorem dX5_load_24 : decode cX5_load 24 = .ok (.ireturn, 1) := by decide +kernel
theorem dX5_note_0 : decode cX5_note 0 = .ok (.aload_n 0, 1) := by decide +kernel
theorem dX5_note_1 : decode cX5_note 1 = .ok (.ldc2_w 150, 3) := by decide +kernel
theorem dX5_note_4 : decode cX5_note 4 = .ok (.aload_n 0, 1) := by decide +kernel
theorem dX5_note_5 : decode cX5_note 5 = .ok (.getfield 152, 3) := by decide +kernel
theorem dX5_note_8 : decode cX5_note 8 = .ok (.lmul, 1) := by decide +kernel
theorem dX5_note_9 : decode cX5_note 9 = .ok (.iload_n 1, 1) := by decide +kernel
theorem dX5_note_10 : decode cX5_note 10 = .ok (.i2l, 1) := by decide +kernel
theorem dX5_note_11 : decode cX5_note 11 = .ok (.ladd, 1) := by decide +kernel
theorem dX5_note_12 : decode cX5_note 12 = .ok (.putfield 152, 3) := by decide +kernel
theorem dX5_note_15 : decode cX5_note 15 = .ok (.return_, 1) := by decide +kernel
set_option maxRecDepth 20000 in
theorem ggX5_digest_X5_count : GoodIn wsX5_digest wsX5_count := goodIn_r _ [8, 3, 9, 10, 11, 7, 12, 13, 14, 15, 16, 17, 18, 19, 20, 21, 22, 23, 24, 25, 26, 27, 28, 29, 30, 31, 32, 33, 34, 35, 36, 37, 38, 39, 40, 41, 42, 43, 44, 45, 46, 47, 48, 49, 50, 51, 61, 62, 63, 64, 65, 66, 67, 68, 69, 70, 71, 72] (by decide +kernel) (by decide +kernel)
set_option maxRecDepth 20000 in
theorem gX5_digest_X5_count : GoodIn wsX5_digest (wsV RX5 158 RX5 yX5_count wsX5_count) := goodIn_app (goodIn_of _ (by decide +kernel)) ggX5_digest_X5_count
set_option maxRecDepth 20000 in
theorem ggX5_digest_X5_note : GoodIn wsX5_digest wsX5_note := goodIn_r _ [55, 56, 2, 61, 62, 63, 64, 65, 66, 67, 68, 69, 70, 71, 72] (by decide +kernel) (by decide +kernel)
set_option maxRecDepth 20000 in
theorem gX5_digest_X5_note : GoodIn wsX5_digest (wsV RX5 161 RX5 yX5_note wsX5_note) := goodIn_app (goodIn_of _ (by decide +kernel)) ggX5_digest_X5_note
set_option maxRecDepth 20000 in
theorem ggX5_digest_X5_freezes : GoodIn wsX5_digest wsX5_freezes := goodIn_r _ [20, 3, 21, 22, 23, 9, 24, 25, 26, 7, 27, 28, 29, 30, 31, 32, 33, 34, 35, 36, 37, 38, 39, 61, 62, 63, 64, 65, 66, 67, 68, 69, 70, 71, 72] (by decide +kernel) (by decide +kernel)
set_option maxRecDepth 20000 in
theorem gX5_digest_X5_freezes : GoodIn wsX5_digest (wsV RX5 82 RX5 yX5_freezes wsX5_freezes) := goodIn_app (goodIn_of _ (by decide +kernel)) ggX5_digest_X5_freezes
set_option maxRecDepth 20000 in
theorem ggX5_digest_X5_property : GoodIn wsX5_digest wsX5_property := goodIn_r _ [60, 3, 9, 21, 23, 28, 29, 30, 7, 31, 36, 37, 38, 39, 44, 45, 46, 47, 40, 41, 42, 43, 61, 62, 63, 64, 65, 66, 67, 68, 69, 70, 71, 72] (by decide +kernel) (by decide +kernel)
set_option maxRecDepth 20000 in
theorem gX5_digest_X5_property : GoodIn wsX5_digest (wsV RX5 95 RX5 yX5_property wsX5_property) := goodIn_app (goodIn_of _ (by decide +kernel)) ggX5_digest_X5_property
theorem dX5_digest_0 : decode cX5_digest 0 = .ok (.aload_n 0, 1) := by decide +kernel
theorem dX5_digest_1 : decode cX5_digest 1 = .ok (.ldc2_w 156, 3) := by decide +kernel
theorem dX5_digest_4 : decode cX5_digest 4 = .ok (.putfield 152, 3) := by decide +kernel
theorem dX5_digest_7 : decode cX5_digest 7 = .ok (.iconst 0, 1) := by decide +kernel
theorem dX5_digest_8 : decode cX5_digest 8 = .ok (.istore_n 1, 1) := by decide +kernel
theorem dX5_digest_9 : decode cX5_digest 9 = .ok (.iload_n 1, 1) := by decide +kernel
theorem dX5_digest_10 : decode cX5_digest 10 = .ok (.bipush 10, 2) := by decide +kernel
theorem dX5_digest_12 : decode cX5_digest 12 = .ok (.if_icmp .ge 18, 3) := by decide +kernel
theorem dX5_digest_15 : decode cX5_digest 15 = .ok (.aload_n 0, 1) := by decide +kernel
theorem dX5_digest_16 : decode cX5_digest 16 = .ok (.aload_n 0, 1) := by decide +kernel
theorem dX5_digest_17 : decode cX5_digest 17 = .ok (.iload_n 1, 1) := by decide +kernel
theorem dX5_digest_18 : decode cX5_digest 18 = .ok (.invokevirtual 158, 3) := by decide +kernel
theorem dX5_digest_21 : decode cX5_digest 21 = .ok (.invokevirtual 161, 3) := by decide +kernel
theorem dX5_digest_24 : decode cX5_digest 24 = .ok (.iinc 1 1, 3) := by decide +kernel
theorem dX5_digest_27 : decode cX5_digest 27 = .ok (.goto (-18), 3) := by decide +kernel
theorem dX5_digest_30 : decode cX5_digest 30 = .ok (.aload_n 0, 1) := by decide +kernel
theorem dX5_digest_31 : decode cX5_digest 31 = .ok (.invokevirtual 82, 3) := by decide +kernel
theorem dX5_digest_34 : decode cX5_digest 34 = .ok (.iconst 0, 1) := by decide +kernel
theorem dX5_digest_35 : decode cX5_digest 35 = .ok (.istore_n 1, 1) := by decide +kernel
theorem dX5_digest_36 : decode cX5_digest 36 = .ok (.iload_n 1, 1) := by decide +kernel
theorem dX5_digest_37 : decode cX5_digest 37 = .ok (.aload_n 0, 1) := by decide +kernel
theorem dX5_digest_38 : decode cX5_digest 38 = .ok (.getfield 7, 3) := by decide +kernel
theorem dX5_digest_41 : decode cX5_digest 41 = .ok (.iconst 0, 1) := by decide +kernel
theorem dX5_digest_42 : decode cX5_digest 42 = .ok (.iaload, 1) := by decide +kernel
theorem dX5_digest_43 : decode cX5_digest 43 = .ok (.if_icmp .ge 33, 3) := by decide +kernel
theorem dX5_digest_46 : decode cX5_digest 46 = .ok (.iconst 0, 1) := by decide +kernel
theorem dX5_digest_47 : decode cX5_digest 47 = .ok (.istore_n 2, 1) := by decide +kernel
theorem dX5_digest_48 : decode cX5_digest 48 = .ok (.iload_n 2, 1) := by decide +kernel
theorem dX5_digest_49 : decode cX5_digest 49 = .ok (.bipush 11, 2) := by decide +kernel
theorem dX5_digest_51 : decode cX5_digest 51 = .ok (.if_icmp .ge 19, 3) := by decide +kernel
theorem dX5_digest_54 : decode cX5_digest 54 = .ok (.aload_n 0, 1) := by decide +kernel
theorem dX5_digest_55 : decode cX5_digest 55 = .ok (.aload_n 0, 1) := by decide +kernel
theorem dX5_digest_56 : decode cX5_digest 56 = .ok (.iload_n 1, 1) := by decide +kernel
theorem dX5_digest_57 : decode cX5_digest 57 = .ok (.iload_n 2, 1) := by decide +kernel
theorem dX5_digest_58 : decode cX5_digest 58 = .ok (.invokevirtual 95, 3) := by decide +kernel
theorem dX5_digest_61 : decode cX5_digest 61 = .ok (.invokevirtual 161, 3) := by decide +kernel
theorem dX5_digest_64 : decode cX5_digest 64 = .ok (.iinc 2 1, 3) := by decide +kernel
theorem dX5_digest_67 : decode cX5_digest 67 = .ok (.goto (-19), 3) := by decide +kernel
theorem dX5_digest_70 : decode cX5_digest 70 = .ok (.iinc 1 1, 3) := by decide +kernel
theorem dX5_digest_73 : decode cX5_digest 73 = .ok (.goto (-37), 3) := by decide +kernel
theorem dX5_digest_76 : decode cX5_digest 76 = .ok (.iconst 0, 1) := by decide +kernel
theorem dX5_digest_77 : decode cX5_digest 77 = .ok (.istore_n 1, 1) := by decide +kernel
theorem dX5_digest_78 : decode cX5_digest 78 = .ok (.iload_n 1, 1) := by decide +kernel
theorem dX5_digest_79 : decode cX5_digest 79 = .ok (.iconst 2, 1) := by decide +kernel
theorem dX5_digest_80 : decode cX5_digest 80 = .ok (.aload_n 0, 1) := by decide +kernel
theorem dX5_digest_81 : decode cX5_digest 81 = .ok (.getfield 7, 3) := by decide +kernel
theorem dX5_digest_84 : decode cX5_digest 84 = .ok (.iconst 1, 1) := by decide +kernel
theorem dX5_digest_85 : decode cX5_digest 85 = .ok (.iaload, 1) := by decide +kernel
theorem dX5_digest_86 : decode cX5_digest 86 = .ok (.imul, 1) := by decide +kernel
theorem dX5_digest_87 : decode cX5_digest 87 = .ok (.if_icmp .ge 22, 3) := by decide +kernel
theorem dX5_digest_90 : decode cX5_digest 90 = .ok (.aload_n 0, 1) := by decide +kernel
theorem dX5_digest_91 : decode cX5_digest 91 = .ok (.aload_n 0, 1) := by decide +kernel
theorem dX5_digest_92 : decode cX5_digest 92 = .ok (.getfield 7, 3) := by decide +kernel
theorem dX5_digest_95 : decode cX5_digest 95 = .ok (.bipush 52, 2) := by decide +kernel
theorem dX5_digest_97 : decode cX5_digest 97 = .ok (.iload_n 1, 1) := by decide +kernel
theorem dX5_digest_98 : decode cX5_digest 98 = .ok (.iadd, 1) := by decide +kernel
theorem dX5_digest_99 : decode cX5_digest 99 = .ok (.iaload, 1) := by decide +kernel
theorem dX5_digest_100 : decode cX5_digest 100 = .ok (.invokevirtual 161, 3) := by decide +kernel
theorem dX5_digest_103 : decode cX5_digest 103 = .ok (.iinc 1 1, 3) := by decide +kernel
theorem dX5_digest_106 : decode cX5_digest 106 = .ok (.goto (-28), 3) := by decide +kernel
theorem dX5_digest_109 : decode cX5_digest 109 = .ok (.aload_n 0, 1) := by decide +kernel
theorem dX5_digest_110 : decode cX5_digest 110 = .ok (.getfield 152, 3) := by decide +kernel
theorem dX5_digest_113 : decode cX5_digest 113 = .ok (.lreturn, 1) := by decide +kernel
