theorem dX0_init_0 : decode cX0_init 0 = .ok (.aload_n 0, 1) := by decide +kernel
theorem dX0_init_1 : decode cX0_init 1 = .ok (.invokespecial 3, 3) := by decide +kernel
theorem dX0_init_4 : decode cX0_init 4 = .ok (.aload_n 0, 1) := by decide +kernel
theorem dX0_init_5 : decode cX0_init 5 = .ok (.iconst 0, 1) := by decide +kernel
theorem dX0_init_6 : decode cX0_init 6 = .ok (.putfield 9, 3) := by decide +kernel
theorem dX0_init_9 : decode cX0_init 9 = .ok (.aload_n 0, 1) := by decide +kernel
theorem dX0_init_10 : decode cX0_init 10 = .ok (.iconst 4, 1) := by decide +kernel
theorem dX0_init_11 : decode cX0_init 11 = .ok (.newarray .int, 2) := by decide +kernel
theorem dX0_init_13 : decode cX0_init 13 = .ok (.putfield 15, 3) := by decide +kernel
theorem dX0_init_16 : decode cX0_init 16 = .ok (.aload_n 0, 1) := by decide +kernel
theorem dX0_init_17 : decode cX0_init 17 = .ok (.bipush 60, 2) := by decide +kernel
theorem dX0_init_19 : decode cX0_init 19 = .ok (.newarray .int, 2) := by decide +kernel
theorem dX0_init_21 : decode cX0_init 21 = .ok (.putfield 19, 3) := by decide +kernel
theorem dX0_init_24 : decode cX0_init 24 = .ok (.aload_n 0, 1) := by decide +kernel
theorem dX0_init_25 : decode cX0_init 25 = .ok (.iconst 0, 1) := by decide +kernel
theorem dX0_init_26 : decode cX0_init 26 = .ok (.putfield 22, 3) := by decide +kernel
theorem dX0_init_29 : decode cX0_init 29 = .ok (.aload_n 0, 1) := by decide +kernel
theorem dX0_init_30 : decode cX0_init 30 = .ok (.iconst 0, 1) := by decide +kernel
theorem dX0_init_31 : decode cX0_init 31 = .ok (.putfield 26, 3) := by decide +kernel
theorem dX0_init_34 : decode cX0_init 34 = .ok (.aload_n 0, 1) := by decide +kernel
theorem dX0_init_35 : decode cX0_init 35 = .ok (.aload_n 1, 1) := by decide +kernel
theorem dX0_init_36 : decode cX0_init 36 = .ok (.putfield 29, 3) := by decide +kernel
theorem dX0_init_39 : decode cX0_init 39 = .ok (.return_, 1) := by decide +kernel
set_option maxRecDepth 20000 in
theorem ggX0_tell_X0_gradeOf : GoodIn wsX0_tell wsX0_gradeOf := goodIn_r _ [11, 2, 1, 20, 21, 22, 23, 24, 25] (by decide +kernel) (by decide +kernel)
set_option maxRecDepth 20000 in
theorem gX0_tell_X0_gradeOf : GoodIn wsX0_tell (wsV RX0 33 RX0 yX0_gradeOf wsX0_gradeOf) := goodIn_app (goodIn_of _ (by decide +kernel)) ggX0_tell_X0_gradeOf
set_option maxRecDepth 20000 in
theorem ggX0_tell_X0_isFull : GoodIn wsX0_tell wsX0_isFull := goodIn_r _ [15, 1, 16, 17, 18, 10, 19, 5, 6, 20, 21, 22, 23, 24, 25] (by decide +kernel) (by decide +kernel)
set_option maxRecDepth 20000 in
theorem gX0_tell_X0_isFull : GoodIn wsX0_tell (wsV RX0 42 RX0 yX0_isFull wsX0_isFull) := goodIn_app (goodIn_of _ (by decide +kernel)) ggX0_tell_X0_isFull
theorem dX0_tell_0 : decode cX0_tell 0 = .ok (.iload_n 1, 1) := by decide +kernel
theorem dX0_tell_1 : decode cX0_tell 1 = .ok (.tableswitch 121 0 9 #[55, 60, 60, 60, 60, 69, 74, 82, 95, 108], 55) := by decide +kernel
theorem dX0_tell_56 : decode cX0_tell 56 = .ok (.aload_n 0, 1) := by decide +kernel
theorem dX0_tell_57 : decode cX0_tell 57 = .ok (.getfield 9, 3) := by decide +kernel
theorem dX0_tell_60 : decode cX0_tell 60 = .ok (.ireturn, 1) := by decide +kernel
theorem dX0_tell_61 : decode cX0_tell 61 = .ok (.aload_n 0, 1) := by decide +kernel
theorem dX0_tell_62 : decode cX0_tell 62 = .ok (.getfield 15, 3) := by decide +kernel
theorem dX0_tell_65 : decode cX0_tell 65 = .ok (.iload_n 1, 1) := by decide +kernel
theorem dX0_tell_66 : decode cX0_tell 66 = .ok (.iconst 1, 1) := by decide +kernel
theorem dX0_tell_67 : decode cX0_tell 67 = .ok (.isub, 1) := by decide +kernel
theorem dX0_tell_68 : decode cX0_tell 68 = .ok (.iaload, 1) := by decide +kernel
theorem dX0_tell_69 : decode cX0_tell 69 = .ok (.ireturn, 1) := by decide +kernel
theorem dX0_tell_70 : decode cX0_tell 70 = .ok (.aload_n 0, 1) := by decide +kernel
theorem dX0_tell_71 : decode cX0_tell 71 = .ok (.invokevirtual 33, 3) := by decide +kernel
theorem dX0_tell_74 : decode cX0_tell 74 = .ok (.ireturn, 1) := by decide +kernel
theorem dX0_tell_75 : decode cX0_tell 75 = .ok (.aload_n 0, 1) := by decide +kernel
theorem dX0_tell_76 : decode cX0_tell 76 = .ok (.getfield 29, 3) := by decide +kernel
theorem dX0_tell_79 : decode cX0_tell 79 = .ok (.getfield 37, 3) := by decide +kernel
theorem dX0_tell_82 : decode cX0_tell 82 = .ok (.ireturn, 1) := by decide +kernel
theorem dX0_tell_83 : decode cX0_tell 83 = .ok (.aload_n 0, 1) := by decide +kernel
theorem dX0_tell_84 : decode cX0_tell 84 = .ok (.invokevirtual 42, 3) := by decide +kernel
theorem dX0_tell_87 : decode cX0_tell 87 = .ok (.ifCond .eq 7, 3) := by decide +kernel
theorem dX0_tell_90 : decode cX0_tell 90 = .ok (.iconst 1, 1) := by decide +kernel
theorem dX0_tell_91 : decode cX0_tell 91 = .ok (.goto 4, 3) := by decide +kernel
theorem dX0_tell_94 : decode cX0_tell 94 = .ok (.iconst 0, 1) := by decide +kernel
theorem dX0_tell_95 : decode cX0_tell 95 = .ok (.ireturn, 1) := by decide +kernel
theorem dX0_tell_96 : decode cX0_tell 96 = .ok (.aload_n 0, 1) := by decide +kernel
theorem dX0_tell_97 : decode cX0_tell 97 = .ok (.getfield 22, 3) := by decide +kernel
theorem dX0_tell_100 : decode cX0_tell 100 = .ok (.ifCond .eq 7, 3) := by decide +kernel
theorem dX0_tell_103 : decode cX0_tell 103 = .ok (.iconst 1, 1) := by decide +kernel
theorem dX0_tell_104 : decode cX0_tell 104 = .ok (.goto 4, 3) := by decide +kernel
theorem dX0_tell_107 : decode cX0_tell 107 = .ok (.iconst 0, 1) := by decide +kernel
theorem dX0_tell_108 : decode cX0_tell 108 = .ok (.ireturn, 1) := by decide +kernel
theorem dX0_tell_109 : decode cX0_tell 109 = .ok (.aload_n 0, 1) := by decide +kernel
theorem dX0_tell_110 : decode cX0_tell 110 = .ok (.getfield 26, 3) := by decide +kernel
theorem dX0_tell_113 : decode cX0_tell 113 = .ok (.ifCond .eq 7, 3) := by decide +kernel
theorem dX0_tell_116 : decode cX0_tell 116 = .ok (.iconst 1, 1) := by decide +kernel
theorem dX0_tell_117 : decode cX0_tell 117 = .ok (.goto 4, 3) := by decide +kernel
theorem dX0_tell_120 : decode cX0_tell 120 = .ok (.iconst 0, 1) := by decide +kernel
theorem dX0_tell_121 : decode cX0_tell 121 = .ok (.ireturn, 1) := by decide +kernel
theorem dX0_tell_122 : decode cX0_tell 122 = .ok (.iconst (-1), 1) := by decide +kernel
theorem dX0_tell_123 : decode cX0_tell 123 = .ok (.ireturn, 1) := by decide +kernel
theorem dX0_isGone_0 : decode cX0_isGone 0 = .ok (.aload_n 0, 1) := by decide +kernel
theorem dX0_isGone_1 : decode cX0_isGone 1 = .ok (.getfield 22, 3) := by decide +kernel
theorem dX0_isGone_4 : decode cX0_isGone 4 = .ok (.ifCond .ne 10, 3) := by decide +kernel
theorem dX0_isGone_7 : decode cX0_isGone 7 = .ok (.aload_n 0, 1) := by decide +kernel
theorem dX0_isGone_8 : decode cX0_isGone 8 = .ok (.getfield 26, 3) := by decide +kernel
theorem dX0_isGone_11 : decode cX0_isGone 11 = .ok (.ifCond .eq 7, 3) := by decide +kernel
theorem dX0_isGone_14 : decode cX0_isGone 14 = .ok (.iconst 1, 1) := by decide +kernel
theorem dX0_isGone_15 : decode cX0_isGone 15 = .ok (.goto 4, 3) := by decide +kernel
theorem dX0_isGone_18 : decode cX0_isGone 18 = .ok (.iconst 0, 1) := by decide +kernel
theorem dX0_isGone_19 : decode cX0_isGone 19 = .ok (.ireturn, 1) := by decide +kernel
set_option maxRecDepth 20000 in
theorem ggX0_isFull_X0_isGone : GoodIn wsX0_isFull wsX0_isGone := goodIn_r _ [6, 7, 8, 9, 10, 11, 12, 13, 14] (by decide +kernel) (by decide +kernel)
set_option maxRecDepth 20000 in
theorem gX0_isFull_X0_isGone : GoodIn wsX0_isFull (wsV RX0 46 RX0 yX0_isGone wsX0_isGone) := goodIn_app (goodIn_of _ (by decide +kernel)) ggX0_isFull_X0_isGone
theorem dX0_isFull_0 : decode cX0_isFull 0 = .ok (.aload_n 0, 1) := by decide +kernel
theorem dX0_isFull_1 : decode cX0_isFull 1 = .ok (.invokevirtual 46, 3) := by decide +kernel
theorem dX0_isFull_4 : decode cX0_isFull 4 = .ok (.ifCond .ne 13, 3) := by decide +kernel
theorem dX0_isFull_7 : decode cX0_isFull 7 = .ok (.aload_n 0, 1) := by decide +kernel
theorem dX0_isFull_8 : decode cX0_isFull 8 = .ok (.getfield 9, 3) := by decide +kernel
theorem dX0_isFull_11 : decode cX0_isFull 11 = .ok (.sipush 1000, 3) := by decide +kernel
theorem dX0_isFull_14 : decode cX0_isFull 14 = .ok (.if_icmp .lt 7, 3) := by decide +kernel
theorem dX0_isFull_17 : decode cX0_isFull 17 = .ok (.iconst 1, 1) := by decide +kernel
theorem dX0_isFull_18 : decode cX0_isFull 18 = .ok (.goto 4, 3) := by decide +kernel
theorem dX0_isFull_21 : decode cX0_isFull 21 = .ok (.iconst 0, 1) := by decide +kernel
theorem dX0_isFull_22 : decode cX0_isFull 22 = .ok (.ireturn, 1) := by decide +kernel
theorem dX0_room_0 : decode cX0_room 0 = .ok (.sipush 1000, 3) := by decide +kernel
theorem dX0_room_3 : decode cX0_room 3 = .ok (.aload_n 0, 1) := by decide +kernel
theorem dX0_room_4 : decode cX0_room 4 = .ok (.getfield 9, 3) := by decide +kernel
theorem dX0_room_7 : decode cX0_room 7 = .ok (.isub, 1) := by decide +kernel
theorem dX0_room_8 : decode cX0_room 8 = .ok (.ireturn, 1) := by decide +kernel
set_option maxRecDepth 20000 in
theorem ggX0_fill_X0_room : GoodIn wsX0_fill wsX0_room := goodIn_r _ [12, 5, 13, 14, 15, 16, 17, 18] (by decide +kernel) (by decide +kernel)
set_option maxRecDepth 20000 in
theorem gX0_fill_X0_room : GoodIn wsX0_fill (wsV RX0 49 RX0 yX0_room wsX0_room) := goodIn_app (goodIn_of _ (by decide +kernel)) ggX0_fill_X0_room
theorem dX0_fill_0 : decode cX0_fill 0 = .ok (.iload_n 3, 1) := by decide +kernel
theorem dX0_fill_1 : decode cX0_fill 1 = .ok (.aload_n 0, 1) := by decide +kernel
theorem dX0_fill_2 : decode cX0_fill 2 = .ok (.invokevirtual 49, 3) := by decide +kernel
theorem dX0_fill_5 : decode cX0_fill 5 = .ok (.invokestatic 52, 3) := by decide +kernel
theorem dX0_fill_8 : decode cX0_fill 8 = .ok (.istore 4, 2) := by decide +kernel
theorem dX0_fill_10 : decode cX0_fill 10 = .ok (.aload_n 0, 1) := by decide +kernel
theorem dX0_fill_11 : decode cX0_fill 11 = .ok (.dup, 1) := by decide +kernel
theorem dX0_fill_12 : decode cX0_fill 12 = .ok (.getfield 9, 3) := by decide +kernel
theorem dX0_fill_15 : decode cX0_fill 15 = .ok (.iload 4, 2) := by decide +kernel
theorem dX0_fill_17 : decode cX0_fill 17 = .ok (.iadd, 1) := by decide +kernel
theorem dX0_fill_18 : decode cX0_fill 18 = .ok (.putfield 9, 3) := by decide +kernel
theorem dX0_fill_21 : decode cX0_fill 21 = .ok (.aload_n 0, 1) := by decide +kernel
theorem dX0_fill_22 : decode cX0_fill 22 = .ok (.getfield 15, 3) := by decide +kernel
theorem dX0_fill_25 : decode cX0_fill 25 = .ok (.iload_n 2, 1) := by decide +kernel
theorem dX0_fill_26 : decode cX0_fill 26 = .ok (.dup2, 1) := by decide +kernel
theorem dX0_fill_27 : decode cX0_fill 27 = .ok (.iaload, 1) := by decide +kernel
theorem dX0_fill_28 : decode cX0_fill 28 = .ok (.iload 4, 2) := by decide +kernel
theorem dX0_fill_30 : decode cX0_fill 30 = .ok (.iadd, 1) := by decide +kernel
theorem dX0_fill_31 : decode cX0_fill 31 = .ok (.iastore, 1) := by decide +kernel
theorem dX0_fill_32 : decode cX0_fill 32 = .ok (.aload_n 0, 1) := by decide +kernel
theorem dX0_fill_33 : decode cX0_fill 33 = .ok (.getfield 19, 3) := by decide +kernel
theorem dX0_fill_36 : decode cX0_fill 36 = .ok (.iload_n 1, 1) := by decide +kernel
theorem dX0_fill_37 : decode cX0_fill 37 = .ok (.dup2, 1) := by decide +kernel
theorem dX0_fill_38 : decode cX0_fill 38 = .ok (.iaload, 1) := by decide +kernel
theorem dX0_fill_39 : decode cX0_fill 39 = .ok (.iload 4, 2) := by decide +kernel
theorem dX0_fill_41 : decode cX0_fill 41 = .ok (.iadd, 1) := by decide +kernel
theorem dX0_fill_42 : decode cX0_fill 42 = .ok (.iastore, 1) := by decide +kernel
theorem dX0_fill_43 : decode cX0_fill 43 = .ok (.iload 4, 2) := by decide +kernel
theorem dX0_fill_45 : decode cX0_fill 45 = .ok (.ireturn, 1) := by decide +kernel
theorem dX0_gradeOf_0 : decode cX0_gradeOf 0 = .ok (.iconst 0, 1) := by decide +kernel
theorem dX0_gradeOf_1 : decode cX0_gradeOf 1 = .ok (.istore_n 1, 1) := by decide +kernel
theorem dX0_gradeOf_2 : decode cX0_gradeOf 2 = .ok (.iconst 0, 1) := by decide +kernel
theorem dX0_gradeOf_3 : decode cX0_gradeOf 3 = .ok (.istore_n 2, 1) := by decide +kernel
theorem dX0_gradeOf_4 : decode cX0_gradeOf 4 = .ok (.iload_n 2, 1) := by decide +kernel
theorem dX0_gradeOf_5 : decode cX0_gradeOf 5 = .ok (.iconst 4, 1) := by decide +kernel
theorem dX0_gradeOf_6 : decode cX0_gradeOf 6 = .ok (.if_icmp .ge 20, 3) := by decide +kernel
theorem dX0_gradeOf_9 : decode cX0_gradeOf 9 = .ok (.iload_n 1, 1) := by decide +kernel
theorem dX0_gradeOf_10 : decode cX0_gradeOf 10 = .ok (.iload_n 2, 1) := by decide +kernel
theorem dX0_gradeOf_11 : decode cX0_gradeOf 11 = .ok (.aload_n 0, 1) := by decide +kernel
theorem dX0_gradeOf_12 : decode cX0_gradeOf 12 = .ok (.getfield 15, 3) := by decide +kernel
theorem dX0_gradeOf_15 : decode cX0_gradeOf 15 = .ok (.iload_n 2, 1) := by decide +kernel
theorem dX0_gradeOf_16 : decode cX0_gradeOf 16 = .ok (.iaload, 1) := by decide +kernel
theorem dX0_gradeOf_17 : decode cX0_gradeOf 17 = .ok (.imul, 1) := by decide +kernel
theorem dX0_gradeOf_18 : decode cX0_gradeOf 18 = .ok (.iadd, 1) := by decide +kernel
theorem dX0_gradeOf_19 : decode cX0_gradeOf 19 = .ok (.istore_n 1, 1) := by decide +kernel
theorem dX0_gradeOf_20 : decode cX0_gradeOf 20 = .ok (.iinc 2 1, 3) := by decide +kernel
theorem dX0_gradeOf_23 : decode cX0_gradeOf 23 = .ok (.goto (-19), 3) := by decide +kernel
theorem dX0_gradeOf_26 : decode cX0_gradeOf 26 = .ok (.aload_n 0, 1) := by decide +kernel
theorem dX0_gradeOf_27 : decode cX0_gradeOf 27 = .ok (.getfield 9, 3) := by decide +kernel
theorem dX0_gradeOf_30 : decode cX0_gradeOf 30 = .ok (.ifCond .gt 7, 3) := by decide +kernel
theorem dX0_gradeOf_33 : decode cX0_gradeOf 33 = .ok (.iconst 0, 1) := by decide +kernel
theorem dX0_gradeOf_34 : decode cX0_gradeOf 34 = .ok (.goto 9, 3) := by decide +kernel
theorem dX0_gradeOf_37 : decode cX0_gradeOf 37 = .ok (.iload_n 1, 1) := by decide +kernel
theorem dX0_gradeOf_38 : decode cX0_gradeOf 38 = .ok (.aload_n 0, 1) := by decide +kernel
theorem dX0_gradeOf_39 : decode cX0_gradeOf 39 = .ok (.getfield 9, 3) := by decide +kernel
theorem dX0_gradeOf_42 : decode cX0_gradeOf 42 = .ok (.idiv, 1) := by decide +kernel
theorem dX0_gradeOf_43 : decode cX0_gradeOf 43 = .ok (.ireturn, 1) := by decide +kernel
theorem dX0_spiritOf_0 : decode cX0_spiritOf 0 = .ok (.aload_n 0, 1) := by decide +kernel
theorem dX0_spiritOf_1 : decode cX0_spiritOf 1 = .ok (.getfield 9, 3) := by decide +kernel
theorem dX0_spiritOf_4 : decode cX0_spiritOf 4 = .ok (.iconst 5, 1) := by decide +kernel
theorem dX0_spiritOf_5 : decode cX0_spiritOf 5 = .ok (.idiv, 1) := by decide +kernel
theorem dX0_spiritOf_6 : decode cX0_spiritOf 6 = .ok (.ireturn, 1) := by decide +kernel
set_option maxRecDepth 20000 in
theorem ggX0_rosinOf_X0_gradeOf : GoodIn wsX0_rosinOf wsX0_gradeOf := goodIn_r _ [10, 11, 1, 12, 13, 14, 15, 16, 17] (by decide +kernel) (by decide +kernel)
set_option maxRecDepth 20000 in
theorem gX0_rosinOf_X0_gradeOf : GoodIn wsX0_rosinOf (wsV RX0 33 RX0 yX0_gradeOf wsX0_gradeOf) := goodIn_app (goodIn_of _ (by decide +kernel)) ggX0_rosinOf_X0_gradeOf
theorem dX0_rosinOf_0 : decode cX0_rosinOf 0 = .ok (.aload_n 0, 1) := by decide +kernel
theorem dX0_rosinOf_1 : decode cX0_rosinOf 1 = .ok (.getfield 9, 3) := by decide +kernel
theorem dX0_rosinOf_4 : decode cX0_rosinOf 4 = .ok (.getstatic 58, 3) := by decide +kernel
theorem dX0_rosinOf_7 : decode cX0_rosinOf 7 = .ok (.aload_n 0, 1) := by decide +kernel
theorem dX0_rosinOf_8 : decode cX0_rosinOf 8 = .ok (.invokevirtual 33, 3) := by decide +kernel
theorem dX0_rosinOf_11 : decode cX0_rosinOf 11 = .ok (.iconst 3, 1) := by decide +kernel
theorem dX0_rosinOf_12 : decode cX0_rosinOf 12 = .ok (.invokestatic 52, 3) := by decide +kernel
theorem dX0_rosinOf_15 : decode cX0_rosinOf 15 = .ok (.iaload, 1) := by decide +kernel
theorem dX0_rosinOf_16 : decode cX0_rosinOf 16 = .ok (.imul, 1) := by decide +kernel
theorem dX0_rosinOf_17 : decode cX0_rosinOf 17 = .ok (.bipush 100, 2) := by decide +kernel
theorem dX0_rosinOf_19 : decode cX0_rosinOf 19 = .ok (.idiv, 1) := by decide +kernel
theorem dX0_rosinOf_20 : decode cX0_rosinOf 20 = .ok (.ireturn, 1) := by decide +kernel
theorem dX1_init_0 : decode cX1_init 0 = .ok (.aload_n 0, 1) := by decide +kernel
theorem dX1_init_1 : decode cX1_init 1 = .ok (.invokespecial 3, 3) := by decide +kernel
theorem dX1_init_4 : decode cX1_init 4 = .ok (.aload_n 0, 1) := by decide +kernel
theorem dX1_init_5 : decode cX1_init 5 = .ok (.iconst 0, 1) := by decide +kernel
theorem dX1_init_6 : decode cX1_init 6 = .ok (.putfield 9, 3) := by decide +kernel
theorem dX1_init_9 : decode cX1_init 9 = .ok (.aload_n 0, 1) := by decide +kernel
theorem dX1_init_10 : decode cX1_init 10 = .ok (.iconst 0, 1) := by decide +kernel
theorem dX1_init_11 : decode cX1_init 11 = .ok (.putfield 15, 3) := by decide +kernel
theorem dX1_init_14 : decode cX1_init 14 = .ok (.aload_n 0, 1) := by decide +kernel
theorem dX1_init_15 : decode cX1_init 15 = .ok (.iconst 0, 1) := by decide +kernel
theorem dX1_init_16 : decode cX1_init 16 = .ok (.putfield 18, 3) := by decide +kernel
theorem dX1_init_19 : decode cX1_init 19 = .ok (.aload_n 0, 1) := by decide +kernel
theorem dX1_init_20 : decode cX1_init 20 = .ok (.iconst 0, 1) := by decide +kernel
theorem dX1_init_21 : decode cX1_init 21 = .ok (.putfield 21, 3) := by decide +kernel
theorem dX1_init_24 : decode cX1_init 24 = .ok (.aload_n 0, 1) := by decide +kernel
theorem dX1_init_25 : decode cX1_init 25 = .ok (.iconst 0, 1) := by decide +kernel
theorem dX1_init_26 : decode cX1_init 26 = .ok (.putfield 24, 3) := by decide +kernel
theorem dX1_init_29 : decode cX1_init 29 = .ok (.aload_n 0, 1) := by decide +kernel
theorem dX1_init_30 : decode cX1_init 30 = .ok (.iconst 4, 1) := by decide +kernel
theorem dX1_init_31 : decode cX1_init 31 = .ok (.newarray .int, 2) := by decide +kernel
theorem dX1_init_33 : decode cX1_init 33 = .ok (.putfield 27, 3) := by decide +kernel
theorem dX1_init_36 : decode cX1_init 36 = .ok (.return_, 1) := by decide +kernel
theorem dX1_tell_0 : decode cX1_tell 0 = .ok (.iload_n 1, 1) := by decide +kernel
theorem dX1_tell_1 : decode cX1_tell 1 = .ok (.tableswitch 85 0 8 #[51, 56, 61, 66, 71, 71, 71, 71, 80], 51) := by decide +kernel
theorem dX1_tell_52 : decode cX1_tell 52 = .ok (.aload_n 0, 1) := by decide +kernel
theorem dX1_tell_53 : decode cX1_tell 53 = .ok (.getfield 9, 3) := by decide +kernel
theorem dX1_tell_56 : decode cX1_tell 56 = .ok (.ireturn, 1) := by decide +kernel
theorem dX1_tell_57 : decode cX1_tell 57 = .ok (.aload_n 0, 1) := by decide +kernel
theorem dX1_tell_58 : decode cX1_tell 58 = .ok (.getfield 15, 3) := by decide +kernel
theorem dX1_tell_61 : decode cX1_tell 61 = .ok (.ireturn, 1) := by decide +kernel
theorem dX1_tell_62 : decode cX1_tell 62 = .ok (.aload_n 0, 1) := by decide +kernel
theorem dX1_tell_63 : decode cX1_tell 63 = .ok (.getfield 18, 3) := by decide +kernel
theorem dX1_tell_66 : decode cX1_tell 66 = .ok (.ireturn, 1) := by decide +kernel
theorem dX1_tell_67 : decode cX1_tell 67 = .ok (.aload_n 0, 1) := by decide +kernel
theorem dX1_tell_68 : decode cX1_tell 68 = .ok (.getfield 21, 3) := by decide +kernel
theorem dX1_tell_71 : decode cX1_tell 71 = .ok (.ireturn, 1) := by decide +kernel
theorem dX1_tell_72 : decode cX1_tell 72 = .ok (.aload_n 0, 1) := by decide +kernel
theorem dX1_tell_73 : decode cX1_tell 73 = .ok (.getfield 27, 3) := by decide +kernel
theorem dX1_tell_76 : decode cX1_tell 76 = .ok (.iload_n 1, 1) := by decide +kernel
theorem dX1_tell_77 : decode cX1_tell 77 = .ok (.iconst 4, 1) := by decide +kernel
theorem dX1_tell_78 : decode cX1_tell 78 = .ok (.isub, 1) := by decide +kernel
theorem dX1_tell_79 : decode cX1_tell 79 = .ok (.iaload, 1) := by decide +kernel
theorem dX1_tell_80 : decode cX1_tell 80 = .ok (.ireturn, 1) := by decide +kernel
theorem dX1_tell_81 : decode cX1_tell 81 = .ok (.aload_n 0, 1) := by decide +kernel
theorem dX1_tell_82 : decode cX1_tell 82 = .ok (.getfield 24, 3) := by decide +kernel
theorem dX1_tell_85 : decode cX1_tell 85 = .ok (.ireturn, 1) := by decide +kernel
theorem dX1_tell_86 : decode cX1_tell 86 = .ok (.iconst (-1), 1) := by decide +kernel
theorem dX1_tell_87 : decode cX1_tell 87 = .ok (.ireturn, 1) := by decide +kernel
theorem dX1_mayBeCutOn_0 : decode cX1_mayBeCutOn 0 = .ok (.aload_n 0, 1) := by decide +kernel
theorem dX1_mayBeCutOn_1 : decode cX1_mayBeCutOn 1 = .ok (.getfield 9, 3) := by decide +kernel
theorem dX1_mayBeCutOn_4 : decode cX1_mayBeCutOn 4 = .ok (.bipush 40, 2) := by decide +kernel
theorem dX1_mayBeCutOn_6 : decode cX1_mayBeCutOn 6 = .ok (.if_icmp .ge 17, 3) := by decide +kernel
theorem dX1_mayBeCutOn_9 : decode cX1_mayBeCutOn 9 = .ok (.iload_n 1, 1) := by decide +kernel
theorem dX1_mayBeCutOn_10 : decode cX1_mayBeCutOn 10 = .ok (.aload_n 0, 1) := by decide +kernel
theorem dX1_mayBeCutOn_11 : decode cX1_mayBeCutOn 11 = .ok (.getfield 15, 3) := by decide +kernel
theorem dX1_mayBeCutOn_14 : decode cX1_mayBeCutOn 14 = .ok (.isub, 1) := by decide +kernel
theorem dX1_mayBeCutOn_15 : decode cX1_mayBeCutOn 15 = .ok (.iconst 5, 1) := by decide +kernel
theorem dX1_mayBeCutOn_16 : decode cX1_mayBeCutOn 16 = .ok (.if_icmp .lt 7, 3) := by decide +kernel
theorem dX1_mayBeCutOn_19 : decode cX1_mayBeCutOn 19 = .ok (.iconst 1, 1) := by decide +kernel
theorem dX1_mayBeCutOn_20 : decode cX1_mayBeCutOn 20 = .ok (.goto 4, 3) := by decide +kernel
theorem dX1_mayBeCutOn_23 : decode cX1_mayBeCutOn 23 = .ok (.iconst 0, 1) := by decide +kernel
theorem dX1_mayBeCutOn_24 : decode cX1_mayBeCutOn 24 = .ok (.ireturn, 1) := by decide +kernel
set_option maxRecDepth 20000 in
theorem ggX1_endDay_X1_strengthOn : GoodIn wsX1_endDay wsX1_strengthOn := goodIn_r _ [9, 10, 39, 40, 41, 42, 43, 44] (by decide +kernel) (by decide +kernel)
set_option maxRecDepth 20000 in
theorem gX1_endDay_X1_strengthOn : GoodIn wsX1_endDay (wsV RX1 31 RX1 yX1_strengthOn wsX1_strengthOn) := goodIn_app (goodIn_of _ (by decide +kernel)) ggX1_endDay_X1_strengthOn
set_option maxRecDepth 20000 in
theorem ggX1_endDay_X1_gradeOn : GoodIn wsX1_endDay wsX1_gradeOn := goodIn_r _ [14, 15, 16, 17, 18, 19, 20, 21, 22, 23, 24, 25, 39, 40, 41, 42, 43, 44] (by decide +kernel) (by decide +kernel)
set_option maxRecDepth 20000 in
theorem gX1_endDay_X1_gradeOn : GoodIn wsX1_endDay (wsV RX1 41 RX1 yX1_gradeOn wsX1_gradeOn) := goodIn_app (goodIn_of _ (by decide +kernel)) ggX1_endDay_X1_gradeOn
set_option maxRecDepth 20000 in
theorem ggX1_endDay_X1_catchInCup : GoodIn wsX1_endDay wsX1_catchInCup := goodIn_r _ [29, 3, 16, 17, 18, 19, 30, 31, 39, 40, 41, 42, 43, 44] (by decide +kernel) (by decide +kernel)
set_option maxRecDepth 20000 in
theorem gX1_endDay_X1_catchInCup : GoodIn wsX1_endDay (wsV RX1 44 RX1 yX1_catchInCup wsX1_catchInCup) := goodIn_app (goodIn_of _ (by decide +kernel)) ggX1_endDay_X1_catchInCup
set_option maxRecDepth 20000 in
theorem ggX1_endDay_X1_washBy : GoodIn wsX1_endDay wsX1_washBy := goodIn_r _ [35, 30, 3, 39, 40, 41, 42, 43, 44] (by decide +kernel) (by decide +kernel)
set_option maxRecDepth 20000 in
theorem gX1_endDay_X1_washBy : GoodIn wsX1_endDay (wsV RX1 51 RX1 yX1_washBy wsX1_washBy) := goodIn_app (goodIn_of _ (by decide +kernel)) ggX1_endDay_X1_washBy
theorem dX1_endDay_0 : decode cX1_endDay 0 = .ok (.iload_n 2, 1) := by decide +kernel
theorem dX1_endDay_1 : decode cX1_endDay 1 = .ok (.aload_n 0, 1) := by decide +kernel
theorem dX1_endDay_2 : decode cX1_endDay 2 = .ok (.iload_n 1, 1) := by decide +kernel
theorem dX1_endDay_3 : decode cX1_endDay 3 = .ok (.invokevirtual 31, 3) := by decide +kernel
theorem dX1_endDay_6 : decode cX1_endDay 6 = .ok (.imul, 1) := by decide +kernel
theorem dX1_endDay_7 : decode cX1_endDay 7 = .ok (.istore 5, 2) := by decide +kernel
theorem dX1_endDay_9 : decode cX1_endDay 9 = .ok (.iload 5, 2) := by decide +kernel
theorem dX1_endDay_11 : decode cX1_endDay 11 = .ok (.ifCond .le 36, 3) := by decide +kernel
theorem dX1_endDay_14 : decode cX1_endDay 14 = .ok (.aload 4, 2) := by decide +kernel
theorem dX1_endDay_16 : decode cX1_endDay 16 = .ok (.dup, 1) := by decide +kernel
theorem dX1_endDay_17 : decode cX1_endDay 17 = .ok (.getfield 35, 3) := by decide +kernel
theorem dX1_endDay_20 : decode cX1_endDay 20 = .ok (.iload 5, 2) := by decide +kernel
theorem dX1_endDay_22 : decode cX1_endDay 22 = .ok (.iadd, 1) := by decide +kernel
theorem dX1_endDay_23 : decode cX1_endDay 23 = .ok (.putfield 35, 3) := by decide +kernel
theorem dX1_endDay_26 : decode cX1_endDay 26 = .ok (.aload 4, 2) := by decide +kernel
theorem dX1_endDay_28 : decode cX1_endDay 28 = .ok (.dup, 1) := by decide +kernel
theorem dX1_endDay_29 : decode cX1_endDay 29 = .ok (.getfield 40, 3) := by decide +kernel
theorem dX1_endDay_32 : decode cX1_endDay 32 = .ok (.aload_n 0, 1) := by decide +kernel
theorem dX1_endDay_33 : decode cX1_endDay 33 = .ok (.iload 5, 2) := by decide +kernel
theorem dX1_endDay_35 : decode cX1_endDay 35 = .ok (.aload_n 0, 1) := by decide +kernel
theorem dX1_endDay_36 : decode cX1_endDay 36 = .ok (.iload_n 1, 1) := by decide +kernel
theorem dX1_endDay_37 : decode cX1_endDay 37 = .ok (.invokevirtual 41, 3) := by decide +kernel
theorem dX1_endDay_40 : decode cX1_endDay 40 = .ok (.invokevirtual 44, 3) := by decide +kernel
theorem dX1_endDay_43 : decode cX1_endDay 43 = .ok (.iadd, 1) := by decide +kernel
theorem dX1_endDay_44 : decode cX1_endDay 44 = .ok (.putfield 40, 3) := by decide +kernel
theorem dX1_endDay_47 : decode cX1_endDay 47 = .ok (.iload_n 3, 1) := by decide +kernel
theorem dX1_endDay_48 : decode cX1_endDay 48 = .ok (.ifCond .le 25, 3) := by decide +kernel
theorem dX1_endDay_51 : decode cX1_endDay 51 = .ok (.aload_n 0, 1) := by decide +kernel
theorem dX1_endDay_52 : decode cX1_endDay 52 = .ok (.getfield 21, 3) := by decide +kernel
theorem dX1_endDay_55 : decode cX1_endDay 55 = .ok (.ifCond .le 18, 3) := by decide +kernel
theorem dX1_endDay_58 : decode cX1_endDay 58 = .ok (.aload 4, 2) := by decide +kernel
theorem dX1_endDay_60 : decode cX1_endDay 60 = .ok (.dup, 1) := by decide +kernel
theorem dX1_endDay_61 : decode cX1_endDay 61 = .ok (.getfield 48, 3) := by decide +kernel
theorem dX1_endDay_64 : decode cX1_endDay 64 = .ok (.aload_n 0, 1) := by decide +kernel
theorem dX1_endDay_65 : decode cX1_endDay 65 = .ok (.iload_n 3, 1) := by decide +kernel
theorem dX1_endDay_66 : decode cX1_endDay 66 = .ok (.invokevirtual 51, 3) := by decide +kernel
theorem dX1_endDay_69 : decode cX1_endDay 69 = .ok (.iadd, 1) := by decide +kernel
theorem dX1_endDay_70 : decode cX1_endDay 70 = .ok (.putfield 48, 3) := by decide +kernel
theorem dX1_endDay_73 : decode cX1_endDay 73 = .ok (.return_, 1) := by decide +kernel
theorem dX1_strengthOn_0 : decode cX1_strengthOn 0 = .ok (.iload_n 1, 1) := by decide +kernel
theorem dX1_strengthOn_1 : decode cX1_strengthOn 1 = .ok (.aload_n 0, 1) := by decide +kernel
theorem dX1_strengthOn_2 : decode cX1_strengthOn 2 = .ok (.getfield 15, 3) := by decide +kernel
theorem dX1_strengthOn_5 : decode cX1_strengthOn 5 = .ok (.isub, 1) := by decide +kernel
theorem dX1_strengthOn_6 : decode cX1_strengthOn 6 = .ok (.istore_n 2, 1) := by decide +kernel
theorem dX1_strengthOn_7 : decode cX1_strengthOn 7 = .ok (.iload_n 2, 1) := by decide +kernel
theorem dX1_strengthOn_8 : decode cX1_strengthOn 8 = .ok (.ifCond .lt 11, 3) := by decide +kernel
theorem dX1_strengthOn_11 : decode cX1_strengthOn 11 = .ok (.iload_n 2, 1) := by decide +kernel
theorem dX1_strengthOn_12 : decode cX1_strengthOn 12 = .ok (.getstatic 54, 3) := by decide +kernel
theorem dX1_strengthOn_15 : decode cX1_strengthOn 15 = .ok (.arraylength, 1) := by decide +kernel
theorem dX1_strengthOn_16 : decode cX1_strengthOn 16 = .ok (.if_icmp .lt 7, 3) := by decide +kernel
theorem dX1_strengthOn_19 : decode cX1_strengthOn 19 = .ok (.iconst 0, 1) := by decide +kernel
theorem dX1_strengthOn_20 : decode cX1_strengthOn 20 = .ok (.goto 8, 3) := by decide +kernel
theorem dX1_strengthOn_23 : decode cX1_strengthOn 23 = .ok (.getstatic 54, 3) := by decide +kernel
theorem dX1_strengthOn_26 : decode cX1_strengthOn 26 = .ok (.iload_n 2, 1) := by decide +kernel
theorem dX1_strengthOn_27 : decode cX1_strengthOn 27 = .ok (.iaload, 1) := by decide +kernel
theorem dX1_strengthOn_28 : decode cX1_strengthOn 28 = .ok (.ireturn, 1) := by decide +kernel
set_option maxRecDepth 20000 in
theorem ggX1_gradeOn_X6_yearOf : GoodIn wsX1_gradeOn wsX6_yearOf := goodIn_r _ [11] (by decide +kernel) (by decide +kernel)
set_option maxRecDepth 20000 in
theorem gX1_gradeOn_X6_yearOf_n57 : GoodIn wsX1_gradeOn (wsX6_yearOf) := ggX1_gradeOn_X6_yearOf
theorem dX1_gradeOn_0 : decode cX1_gradeOn 0 = .ok (.iconst 0, 1) := by decide +kernel
theorem dX1_gradeOn_1 : decode cX1_gradeOn 1 = .ok (.iload_n 1, 1) := by decide +kernel
theorem dX1_gradeOn_2 : decode cX1_gradeOn 2 = .ok (.invokestatic 57, 3) := by decide +kernel
theorem dX1_gradeOn_5 : decode cX1_gradeOn 5 = .ok (.aload_n 0, 1) := by decide +kernel
theorem dX1_gradeOn_6 : decode cX1_gradeOn 6 = .ok (.getfield 18, 3) := by decide +kernel
theorem dX1_gradeOn_9 : decode cX1_gradeOn 9 = .ok (.isub, 1) := by decide +kernel
theorem dX1_gradeOn_10 : decode cX1_gradeOn 10 = .ok (.iconst 3, 1) := by decide +kernel
theorem dX1_gradeOn_11 : decode cX1_gradeOn 11 = .ok (.invokestatic 60, 3) := by decide +kernel
theorem dX1_gradeOn_14 : decode cX1_gradeOn 14 = .ok (.invokestatic 65, 3) := by decide +kernel
theorem dX1_gradeOn_17 : decode cX1_gradeOn 17 = .ok (.ireturn, 1) := by decide +kernel
theorem dX1_catchInCup_0 : decode cX1_catchInCup 0 = .ok (.iload_n 1, 1) := by decide +kernel
theorem dX1_catchInCup_1 : decode cX1_catchInCup 1 = .ok (.sipush 400, 3) := by decide +kernel
theorem dX1_catchInCup_4 : decode cX1_catchInCup 4 = .ok (.aload_n 0, 1) := by decide +kernel
theorem dX1_catchInCup_5 : decode cX1_catchInCup 5 = .ok (.getfield 21, 3) := by decide +kernel
theorem dX1_catchInCup_8 : decode cX1_catchInCup 8 = .ok (.isub, 1) := by decide +kernel
theorem dX1_catchInCup_9 : decode cX1_catchInCup 9 = .ok (.invokestatic 60, 3) := by decide +kernel
theorem dX1_catchInCup_12 : decode cX1_catchInCup 12 = .ok (.istore_n 3, 1) := by decide +kernel
theorem dX1_catchInCup_13 : decode cX1_catchInCup 13 = .ok (.aload_n 0, 1) := by decide +kernel
theorem dX1_catchInCup_14 : decode cX1_catchInCup 14 = .ok (.getfield 27, 3) := by decide +kernel
theorem dX1_catchInCup_17 : decode cX1_catchInCup 17 = .ok (.iload_n 2, 1) := by decide +kernel
theorem dX1_catchInCup_18 : decode cX1_catchInCup 18 = .ok (.dup2, 1) := by decide +kernel
theorem dX1_catchInCup_19 : decode cX1_catchInCup 19 = .ok (.iaload, 1) := by decide +kernel
theorem dX1_catchInCup_20 : decode cX1_catchInCup 20 = .ok (.iload_n 3, 1) := by decide +kernel
theorem dX1_catchInCup_21 : decode cX1_catchInCup 21 = .ok (.iadd, 1) := by decide +kernel
theorem dX1_catchInCup_22 : decode cX1_catchInCup 22 = .ok (.iastore, 1) := by decide +kernel
theorem dX1_catchInCup_23 : decode cX1_catchInCup 23 = .ok (.aload_n 0, 1) := by decide +kernel
theorem dX1_catchInCup_24 : decode cX1_catchInCup 24 = .ok (.dup, 1) := by decide +kernel
theorem dX1_catchInCup_25 : decode cX1_catchInCup 25 = .ok (.getfield 21, 3) := by decide +kernel
theorem dX1_catchInCup_28 : decode cX1_catchInCup 28 = .ok (.iload_n 3, 1) := by decide +kernel
theorem dX1_catchInCup_29 : decode cX1_catchInCup 29 = .ok (.iadd, 1) := by decide +kernel
theorem dX1_catchInCup_30 : decode cX1_catchInCup 30 = .ok (.putfield 21, 3) := by decide +kernel
theorem dX1_catchInCup_33 : decode cX1_catchInCup 33 = .ok (.aload_n 0, 1) := by decide +kernel
theorem dX1_catchInCup_34 : decode cX1_catchInCup 34 = .ok (.dup, 1) := by decide +kernel
theorem dX1_catchInCup_35 : decode cX1_catchInCup 35 = .ok (.getfield 24, 3) := by decide +kernel
theorem dX1_catchInCup_38 : decode cX1_catchInCup 38 = .ok (.iload_n 1, 1) := by decide +kernel
theorem dX1_catchInCup_39 : decode cX1_catchInCup 39 = .ok (.iload_n 3, 1) := by decide +kernel
theorem dX1_catchInCup_40 : decode cX1_catchInCup 40 = .ok (.isub, 1) := by decide +kernel
theorem dX1_catchInCup_41 : decode cX1_catchInCup 41 = .ok (.iadd, 1) := by decide +kernel
theorem dX1_catchInCup_42 : decode cX1_catchInCup 42 = .ok (.putfield 24, 3) := by decide +kernel
theorem dX1_catchInCup_45 : decode cX1_catchInCup 45 = .ok (.iload_n 1, 1) := by decide +kernel
theorem dX1_catchInCup_46 : decode cX1_catchInCup 46 = .ok (.iload_n 3, 1) := by decide +kernel
theorem dX1_catchInCup_47 : decode cX1_catchInCup 47 = .ok (.isub, 1) := by decide +kernel
theorem dX1_catchInCup_48 : decode cX1_catchInCup 48 = .ok (.ireturn, 1) := by decide +kernel
theorem dX1_washBy_0 : decode cX1_washBy 0 = .ok (.iconst 0, 1) := by decide +kernel
theorem dX1_washBy_1 : decode cX1_washBy 1 = .ok (.istore_n 2, 1) := by decide +kernel
theorem dX1_washBy_2 : decode cX1_washBy 2 = .ok (.iconst 0, 1) := by decide +kernel
theorem dX1_washBy_3 : decode cX1_washBy 3 = .ok (.istore_n 3, 1) := by decide +kernel
theorem dX1_washBy_4 : decode cX1_washBy 4 = .ok (.iload_n 3, 1) := by decide +kernel
theorem dX1_washBy_5 : decode cX1_washBy 5 = .ok (.iconst 4, 1) := by decide +kernel
theorem dX1_washBy_6 : decode cX1_washBy 6 = .ok (.if_icmp .ge 38, 3) := by decide +kernel
theorem dX1_washBy_9 : decode cX1_washBy 9 = .ok (.aload_n 0, 1) := by decide +kernel
theorem dX1_washBy_10 : decode cX1_washBy 10 = .ok (.getfield 27, 3) := by decide +kernel
theorem dX1_washBy_13 : decode cX1_washBy 13 = .ok (.iload_n 3, 1) := by decide +kernel
theorem dX1_washBy_14 : decode cX1_washBy 14 = .ok (.iaload, 1) := by decide +kernel
theorem dX1_washBy_15 : decode cX1_washBy 15 = .ok (.iload_n 1, 1) := by decide +kernel
theorem dX1_washBy_16 : decode cX1_washBy 16 = .ok (.imul, 1) := by decide +kernel
theorem dX1_washBy_17 : decode cX1_washBy 17 = .ok (.bipush 100, 2) := by decide +kernel
theorem dX1_washBy_19 : decode cX1_washBy 19 = .ok (.idiv, 1) := by decide +kernel
theorem dX1_washBy_20 : decode cX1_washBy 20 = .ok (.istore 4, 2) := by decide +kernel
theorem dX1_washBy_22 : decode cX1_washBy 22 = .ok (.aload_n 0, 1) := by decide +kernel
theorem dX1_washBy_23 : decode cX1_washBy 23 = .ok (.getfield 27, 3) := by decide +kernel
theorem dX1_washBy_26 : decode cX1_washBy 26 = .ok (.iload_n 3, 1) := by decide +kernel
theorem dX1_washBy_27 : decode cX1_washBy 27 = .ok (.dup2, 1) := by decide +kernel
theorem dX1_washBy_28 : decode cX1_washBy 28 = .ok (.iaload, 1) := by decide +kernel
theorem dX1_washBy_29 : decode cX1_washBy 29 = .ok (.iload 4, 2) := by decide +kernel
theorem dX1_washBy_31 : decode cX1_washBy 31 = .ok (.isub, 1) := by decide +kernel
theorem dX1_washBy_32 : decode cX1_washBy 32 = .ok (.iastore, 1) := by decide +kernel
theorem dX1_washBy_33 : decode cX1_washBy 33 = .ok (.iload_n 2, 1) := by decide +kernel
theorem dX1_washBy_34 : decode cX1_washBy 34 = .ok (.iload 4, 2) := by decide +kernel
theorem dX1_washBy_36 : decode cX1_washBy 36 = .ok (.iadd, 1) := by decide +kernel
theorem dX1_washBy_37 : decode cX1_washBy 37 = .ok (.istore_n 2, 1) := by decide +kernel
theorem dX1_washBy_38 : decode cX1_washBy 38 = .ok (.iinc 3 1, 3) := by decide +kernel
theorem dX1_washBy_41 : decode cX1_washBy 41 = .ok (.goto (-37), 3) := by decide +kernel
theorem dX1_washBy_44 : decode cX1_washBy 44 = .ok (.aload_n 0, 1) := by decide +kernel
theorem dX1_washBy_45 : decode cX1_washBy 45 = .ok (.dup, 1) := by decide +kernel
theorem dX1_washBy_46 : decode cX1_washBy 46 = .ok (.getfield 21, 3) := by decide +kernel
theorem dX1_washBy_49 : decode cX1_washBy 49 = .ok (.iload_n 2, 1) := by decide +kernel
theorem dX1_washBy_50 : decode cX1_washBy 50 = .ok (.isub, 1) := by decide +kernel
theorem dX1_washBy_51 : decode cX1_washBy 51 = .ok (.putfield 21, 3) := by decide +kernel
theorem dX1_washBy_54 : decode cX1_washBy 54 = .ok (.iload_n 2, 1) := by decide +kernel
theorem dX1_washBy_55 : decode cX1_washBy 55 = .ok (.ireturn, 1) := by decide +kernel
theorem dX1_clearCup_0 : decode cX1_clearCup 0 = .ok (.aload_n 0, 1) := by decide +kernel
theorem dX1_clearCup_1 : decode cX1_clearCup 1 = .ok (.iconst 0, 1) := by decide +kernel
theorem dX1_clearCup_2 : decode cX1_clearCup 2 = .ok (.putfield 21, 3) := by decide +kernel
theorem dX1_clearCup_5 : decode cX1_clearCup 5 = .ok (.iconst 0, 1) := by decide +kernel
theorem dX1_clearCup_6 : decode cX1_clearCup 6 = .ok (.istore_n 1, 1) := by decide +kernel
theorem dX1_clearCup_7 : decode cX1_clearCup 7 = .ok (.iload_n 1, 1) := by decide +kernel
theorem dX1_clearCup_8 : decode cX1_clearCup 8 = .ok (.iconst 4, 1) := by decide +kernel
theorem dX1_clearCup_9 : decode cX1_clearCup 9 = .ok (.if_icmp .ge 16, 3) := by decide +kernel
theorem dX1_clearCup_12 : decode cX1_clearCup 12 = .ok (.aload_n 0, 1) := by decide +kernel
theorem dX1_clearCup_13 : decode cX1_clearCup 13 = .ok (.getfield 27, 3) := by decide +kernel
theorem dX1_clearCup_16 : decode cX1_clearCup 16 = .ok (.iload_n 1, 1) := by decide +kernel
theorem dX1_clearCup_17 : decode cX1_clearCup 17 = .ok (.iconst 0, 1) := by decide +kernel
theorem dX1_clearCup_18 : decode cX1_clearCup 18 = .ok (.iastore, 1) := by decide +kernel
theorem dX1_clearCup_19 : decode cX1_clearCup 19 = .ok (.iinc 1 1, 3) := by decide +kernel
theorem dX1_clearCup_22 : decode cX1_clearCup 22 = .ok (.goto (-15), 3) := by decide +kernel
theorem dX1_clearCup_25 : decode cX1_clearCup 25 = .ok (.return_, 1) := by decide +kernel
theorem dX1_standInFor_0 : decode cX1_standInFor 0 = .ok (.aload_n 0, 1) := by decide +kernel
theorem dX1_standInFor_1 : decode cX1_standInFor 1 = .ok (.aload_n 1, 1) := by decide +kernel
theorem dX1_standInFor_2 : decode cX1_standInFor 2 = .ok (.getfield 15, 3) := by decide +kernel
theorem dX1_standInFor_5 : decode cX1_standInFor 5 = .ok (.putfield 15, 3) := by decide +kernel
theorem dX1_standInFor_8 : decode cX1_standInFor 8 = .ok (.aload_n 0, 1) := by decide +kernel
theorem dX1_standInFor_9 : decode cX1_standInFor 9 = .ok (.aload_n 1, 1) := by decide +kernel
theorem dX1_standInFor_10 : decode cX1_standInFor 10 = .ok (.getfield 18, 3) := by decide +kernel
theorem dX1_standInFor_13 : decode cX1_standInFor 13 = .ok (.putfield 18, 3) := by decide +kernel
theorem dX1_standInFor_16 : decode cX1_standInFor 16 = .ok (.aload_n 0, 1) := by decide +kernel
theorem dX1_standInFor_17 : decode cX1_standInFor 17 = .ok (.aload_n 1, 1) := by decide +kernel
theorem dX1_standInFor_18 : decode cX1_standInFor 18 = .ok (.getfield 21, 3) := by decide +kernel
theorem dX1_standInFor_21 : decode cX1_standInFor 21 = .ok (.putfield 21, 3) := by decide +kernel
theorem dX1_standInFor_24 : decode cX1_standInFor 24 = .ok (.aload_n 0, 1) := by decide +kernel
theorem dX1_standInFor_25 : decode cX1_standInFor 25 = .ok (.iconst 0, 1) := by decide +kernel
theorem dX1_standInFor_26 : decode cX1_standInFor 26 = .ok (.putfield 24, 3) := by decide +kernel
theorem dX1_standInFor_29 : decode cX1_standInFor 29 = .ok (.iconst 0, 1) := by decide +kernel
theorem dX1_standInFor_30 : decode cX1_standInFor 30 = .ok (.istore_n 2, 1) := by decide +kernel
theorem dX1_standInFor_31 : decode cX1_standInFor 31 = .ok (.iload_n 2, 1) := by decide +kernel
theorem dX1_standInFor_32 : decode cX1_standInFor 32 = .ok (.iconst 4, 1) := by decide +kernel
theorem dX1_standInFor_33 : decode cX1_standInFor 33 = .ok (.if_icmp .ge 21, 3) := by decide +kernel
theorem dX1_standInFor_36 : decode cX1_standInFor 36 = .ok (.aload_n 0, 1) := by decide +kernel
theorem dX1_standInFor_37 : decode cX1_standInFor 37 = .ok (.getfield 27, 3) := by decide +kernel
theorem dX1_standInFor_40 : decode cX1_standInFor 40 = .ok (.iload_n 2, 1) := by decide +kernel
theorem dX1_standInFor_41 : decode cX1_standInFor 41 = .ok (.aload_n 1, 1) := by decide +kernel
theorem dX1_standInFor_42 : decode cX1_standInFor 42 = .ok (.getfield 27, 3) := by decide +kernel
theorem dX1_standInFor_45 : decode cX1_standInFor 45 = .ok (.iload_n 2, 1) := by decide +kernel
theorem dX1_standInFor_46 : decode cX1_standInFor 46 = .ok (.iaload, 1) := by decide +kernel
theorem dX1_standInFor_47 : decode cX1_standInFor 47 = .ok (.iastore, 1) := by decide +kernel
theorem dX1_standInFor_48 : decode cX1_standInFor 48 = .ok (.iinc 2 1, 3) := by decide +kernel
theorem dX1_standInFor_51 : decode cX1_standInFor 51 = .ok (.goto (-20), 3) := by decide +kernel
theorem dX1_standInFor_54 : decode cX1_standInFor 54 = .ok (.return_, 1) := by decide +kernel
set_option maxRecDepth 20000 in
theorem ggX2_init_X1_init : GoodIn wsX2_init wsX1_init := goodIn_r _ [26, 27, 2, 3, 28, 29, 30, 31, 32, 5, 33, 52, 53, 54, 55, 56, 57] (by decide +kernel) (by decide +kernel)
set_option maxRecDepth 20000 in
theorem gX2_init_X1_init_n39 : GoodIn wsX2_init (wsX1_init) := ggX2_init_X1_init
set_option maxRecDepth 20000 in
theorem ggX2_init_X3_init : GoodIn wsX2_init wsX3_init := goodIn_r _ [35, 36, 2, 3, 37, 38, 39, 58, 59, 60] (by decide +kernel) (by decide +kernel)
set_option maxRecDepth 20000 in
theorem gX2_init_X3_init_n46 : GoodIn wsX2_init (wsX3_init) := ggX2_init_X3_init
theorem dX2_init_0 : decode cX2_init 0 = .ok (.aload_n 0, 1) := by decide +kernel
theorem dX2_init_1 : decode cX2_init 1 = .ok (.invokespecial 3, 3) := by decide +kernel
theorem dX2_init_4 : decode cX2_init 4 = .ok (.aload_n 0, 1) := by decide +kernel
theorem dX2_init_5 : decode cX2_init 5 = .ok (.iconst 0, 1) := by decide +kernel
theorem dX2_init_6 : decode cX2_init 6 = .ok (.putfield 9, 3) := by decide +kernel
theorem dX2_init_9 : decode cX2_init 9 = .ok (.aload_n 0, 1) := by decide +kernel
theorem dX2_init_10 : decode cX2_init 10 = .ok (.bipush 6, 2) := by decide +kernel
theorem dX2_init_12 : decode cX2_init 12 = .ok (.newarray .int, 2) := by decide +kernel
theorem dX2_init_14 : decode cX2_init 14 = .ok (.putfield 15, 3) := by decide +kernel
theorem dX2_init_17 : decode cX2_init 17 = .ok (.aload_n 0, 1) := by decide +kernel
theorem dX2_init_18 : decode cX2_init 18 = .ok (.bipush 6, 2) := by decide +kernel
theorem dX2_init_20 : decode cX2_init 20 = .ok (.newarray .int, 2) := by decide +kernel
theorem dX2_init_22 : decode cX2_init 22 = .ok (.putfield 19, 3) := by decide +kernel
theorem dX2_init_25 : decode cX2_init 25 = .ok (.aload_n 0, 1) := by decide +kernel
theorem dX2_init_26 : decode cX2_init 26 = .ok (.bipush 6, 2) := by decide +kernel
theorem dX2_init_28 : decode cX2_init 28 = .ok (.bipush 20, 2) := by decide +kernel
theorem dX2_init_30 : decode cX2_init 30 = .ok (.multianewarray 22 2, 4) := by decide +kernel
theorem dX2_init_34 : decode cX2_init 34 = .ok (.putfield 24, 3) := by decide +kernel
theorem dX2_init_37 : decode cX2_init 37 = .ok (.aload_n 0, 1) := by decide +kernel
theorem dX2_init_38 : decode cX2_init 38 = .ok (.bipush 6, 2) := by decide +kernel
theorem dX2_init_40 : decode cX2_init 40 = .ok (.newarray .int, 2) := by decide +kernel
theorem dX2_init_42 : decode cX2_init 42 = .ok (.putfield 27, 3) := by decide +kernel
theorem dX2_init_45 : decode cX2_init 45 = .ok (.aload_n 0, 1) := by decide +kernel
theorem dX2_init_46 : decode cX2_init 46 = .ok (.bipush 6, 2) := by decide +kernel
theorem dX2_init_48 : decode cX2_init 48 = .ok (.newarray .int, 2) := by decide +kernel
theorem dX2_init_50 : decode cX2_init 50 = .ok (.putfield 30, 3) := by decide +kernel
theorem dX2_init_53 : decode cX2_init 53 = .ok (.aload_n 0, 1) := by decide +kernel
theorem dX2_init_54 : decode cX2_init 54 = .ok (.bipush 6, 2) := by decide +kernel
theorem dX2_init_56 : decode cX2_init 56 = .ok (.newarray .boolean, 2) := by decide +kernel
theorem dX2_init_58 : decode cX2_init 58 = .ok (.putfield 33, 3) := by decide +kernel
theorem dX2_init_61 : decode cX2_init 61 = .ok (.aload_n 0, 1) := by decide +kernel
theorem dX2_init_62 : decode cX2_init 62 = .ok (.new 37, 3) := by decide +kernel
theorem dX2_init_65 : decode cX2_init 65 = .ok (.dup, 1) := by decide +kernel
theorem dX2_init_66 : decode cX2_init 66 = .ok (.invokespecial 39, 3) := by decide +kernel
theorem dX2_init_69 : decode cX2_init 69 = .ok (.putfield 40, 3) := by decide +kernel
theorem dX2_init_72 : decode cX2_init 72 = .ok (.aload_n 0, 1) := by decide +kernel
theorem dX2_init_73 : decode cX2_init 73 = .ok (.new 44, 3) := by decide +kernel
theorem dX2_init_76 : decode cX2_init 76 = .ok (.dup, 1) := by decide +kernel
theorem dX2_init_77 : decode cX2_init 77 = .ok (.invokespecial 46, 3) := by decide +kernel
theorem dX2_init_80 : decode cX2_init 80 = .ok (.putfield 47, 3) := by decide +kernel
theorem dX2_init_83 : decode cX2_init 83 = .ok (.aload_n 0, 1) := by decide +kernel
theorem dX2_init_84 : decode cX2_init 84 = .ok (.iconst 0, 1) := by decide +kernel
theorem dX2_init_85 : decode cX2_init 85 = .ok (.putfield 51, 3) := by decide +kernel
theorem dX2_init_88 : decode cX2_init 88 = .ok (.aload_n 0, 1) := by decide +kernel
theorem dX2_init_89 : decode cX2_init 89 = .ok (.iconst 0, 1) := by decide +kernel
theorem dX2_init_90 : decode cX2_init 90 = .ok (.putfield 55, 3) := by decide +kernel
theorem dX2_init_93 : decode cX2_init 93 = .ok (.aload_n 0, 1) := by decide +kernel
theorem dX2_init_94 : decode cX2_init 94 = .ok (.iconst 0, 1) := by decide +kernel
theorem dX2_init_95 : decode cX2_init 95 = .ok (.putfield 58, 3) := by decide +kernel
theorem dX2_init_98 : decode cX2_init 98 = .ok (.return_, 1) := by decide +kernel
theorem dX2_begin_0 : decode cX2_begin 0 = .ok (.aload_n 0, 1) := by decide +kernel
theorem dX2_begin_1 : decode cX2_begin 1 = .ok (.iconst 0, 1) := by decide +kernel
theorem dX2_begin_2 : decode cX2_begin 2 = .ok (.putfield 9, 3) := by decide +kernel
theorem dX2_begin_5 : decode cX2_begin 5 = .ok (.aload_n 0, 1) := by decide +kernel
theorem dX2_begin_6 : decode cX2_begin 6 = .ok (.iconst 0, 1) := by decide +kernel
theorem dX2_begin_7 : decode cX2_begin 7 = .ok (.putfield 51, 3) := by decide +kernel
theorem dX2_begin_10 : decode cX2_begin 10 = .ok (.return_, 1) := by decide +kernel
theorem dX2_join_0 : decode cX2_join 0 = .ok (.aload_n 0, 1) := by decide +kernel
theorem dX2_join_1 : decode cX2_join 1 = .ok (.getfield 9, 3) := by decide +kernel
theorem dX2_join_4 : decode cX2_join 4 = .ok (.iconst 5, 1) := by decide +kernel
theorem dX2_join_5 : decode cX2_join 5 = .ok (.invokestatic 61, 3) := by decide +kernel
theorem dX2_join_8 : decode cX2_join 8 = .ok (.istore_n 2, 1) := by decide +kernel
theorem dX2_join_9 : decode cX2_join 9 = .ok (.aload_n 0, 1) := by decide +kernel
theorem dX2_join_10 : decode cX2_join 10 = .ok (.getfield 15, 3) := by decide +kernel
theorem dX2_join_13 : decode cX2_join 13 = .ok (.iload_n 2, 1) := by decide +kernel
theorem dX2_join_14 : decode cX2_join 14 = .ok (.aload_n 1, 1) := by decide +kernel
theorem dX2_join_15 : decode cX2_join 15 = .ok (.getfield 67, 3) := by decide +kernel
theorem dX2_join_18 : decode cX2_join 18 = .ok (.iastore, 1) := by decide +kernel
theorem dX2_join_19 : decode cX2_join 19 = .ok (.aload_n 0, 1) := by decide +kernel
theorem dX2_join_20 : decode cX2_join 20 = .ok (.getfield 19, 3) := by decide +kernel
theorem dX2_join_23 : decode cX2_join 23 = .ok (.iload_n 2, 1) := by decide +kernel
theorem dX2_join_24 : decode cX2_join 24 = .ok (.aload_n 1, 1) := by decide +kernel
theorem dX2_join_25 : decode cX2_join 25 = .ok (.getfield 72, 3) := by decide +kernel
theorem dX2_join_28 : decode cX2_join 28 = .ok (.iastore, 1) := by decide +kernel
theorem dX2_join_29 : decode cX2_join 29 = .ok (.iconst 0, 1) := by decide +kernel
theorem dX2_join_30 : decode cX2_join 30 = .ok (.istore_n 3, 1) := by decide +kernel
theorem dX2_join_31 : decode cX2_join 31 = .ok (.iload_n 3, 1) := by decide +kernel
theorem dX2_join_32 : decode cX2_join 32 = .ok (.bipush 19, 2) := by decide +kernel
theorem dX2_join_34 : decode cX2_join 34 = .ok (.if_icmp .gt 18, 3) := by decide +kernel
theorem dX2_join_37 : decode cX2_join 37 = .ok (.aload_n 0, 1) := by decide +kernel
theorem dX2_join_38 : decode cX2_join 38 = .ok (.getfield 24, 3) := by decide +kernel
theorem dX2_join_41 : decode cX2_join 41 = .ok (.iload_n 2, 1) := by decide +kernel
theorem dX2_join_42 : decode cX2_join 42 = .ok (.aaload, 1) := by decide +kernel
theorem dX2_join_43 : decode cX2_join 43 = .ok (.iload_n 3, 1) := by decide +kernel
theorem dX2_join_44 : decode cX2_join 44 = .ok (.iconst 0, 1) := by decide +kernel
theorem dX2_join_45 : decode cX2_join 45 = .ok (.iastore, 1) := by decide +kernel
theorem dX2_join_46 : decode cX2_join 46 = .ok (.iinc 3 1, 3) := by decide +kernel
theorem dX2_join_49 : decode cX2_join 49 = .ok (.goto (-18), 3) := by decide +kernel
theorem dX2_join_52 : decode cX2_join 52 = .ok (.aload_n 0, 1) := by decide +kernel
theorem dX2_join_53 : decode cX2_join 53 = .ok (.iload_n 2, 1) := by decide +kernel
theorem dX2_join_54 : decode cX2_join 54 = .ok (.iconst 1, 1) := by decide +kernel
theorem dX2_join_55 : decode cX2_join 55 = .ok (.iadd, 1) := by decide +kernel
theorem dX2_join_56 : decode cX2_join 56 = .ok (.putfield 9, 3) := by decide +kernel
theorem dX2_join_59 : decode cX2_join 59 = .ok (.iload_n 2, 1) := by decide +kernel
theorem dX2_join_60 : decode cX2_join 60 = .ok (.ireturn, 1) := by decide +kernel
set_option maxRecDepth 20000 in
theorem ggX2_visit_X2_beatsBest : GoodIn wsX2_visit wsX2_beatsBest := goodIn_r _ [10, 11, 12, 35, 36, 37, 38, 39, 40, 41, 42, 43, 44, 45, 46] (by decide +kernel) (by decide +kernel)
set_option maxRecDepth 20000 in
theorem gX2_visit_X2_beatsBest : GoodIn wsX2_visit (wsV RX2 75 RX2 yX2_beatsBest wsX2_beatsBest) := goodIn_app (goodIn_of _ (by decide +kernel)) ggX2_visit_X2_beatsBest
set_option maxRecDepth 20000 in
theorem ggX2_visit_X2_keepBest : GoodIn wsX2_visit wsX2_keepBest := goodIn_r _ [16, 1, 11, 12, 2, 17, 5, 35, 36, 37, 38, 39, 40, 41, 42, 43, 44, 45, 46] (by decide +kernel) (by decide +kernel)
set_option maxRecDepth 20000 in
theorem gX2_visit_X2_keepBest : GoodIn wsX2_visit (wsV RX2 79 RX2 yX2_keepBest wsX2_keepBest) := goodIn_app (goodIn_of _ (by decide +kernel)) ggX2_visit_X2_keepBest
set_option maxRecDepth 20000 in
theorem ggX2_visit_X2_stepsBetween : GoodIn wsX2_visit wsX2_stepsBetween := goodIn_r _ [20, 21, 22, 23, 24] (by decide +kernel) (by decide +kernel)
set_option maxRecDepth 20000 in
theorem gX2_visit_X2_stepsBetween : GoodIn wsX2_visit (va_wsS RX2 83 yX2_stepsBetween wsX2_stepsBetween) := goodIn_app (goodIn_of _ (by decide +kernel)) ggX2_visit_X2_stepsBetween
set_option maxRecDepth 20000 in
theorem ggX2_visit_X2_spilledBy : GoodIn wsX2_visit wsX2_spilledBy := goodIn_r _ [28, 29, 30, 31, 23, 32, 35, 36, 37, 38, 39, 40, 41, 42, 43, 44, 45, 46] (by decide +kernel) (by decide +kernel)
set_option maxRecDepth 20000 in
theorem gX2_visit_X2_spilledBy : GoodIn wsX2_visit (wsV RX2 86 RX2 yX2_spilledBy wsX2_spilledBy) := goodIn_app (goodIn_of _ (by decide +kernel)) ggX2_visit_X2_spilledBy
set_option maxRecDepth 20000 in
theorem ggX2_visit_X2_visit : GoodIn wsX2_visit wsX2_visit := goodIn_r _ [0, 1, 2, 3, 4, 5, 6, 7, 8, 9, 10, 11, 12, 13, 14, 15, 16, 17, 18, 19, 20, 21, 22, 23, 24, 25, 26, 27, 28, 29, 30, 31, 32, 33, 34, 35, 36, 37, 38, 39, 40, 41, 42, 43, 44, 45, 46] (by decide +kernel) (by decide +kernel)
set_option maxRecDepth 20000 in
theorem gX2_visit_X2_visit : GoodIn wsX2_visit (va_wsS RX2 89 yX2_visit wsX2_visit) := goodIn_app (goodIn_of _ (by decide +kernel)) ggX2_visit_X2_visit
theorem dX2_visit_0 : decode cX2_visit 0 = .ok (.aload_n 0, 1) := by decide +kernel
theorem dX2_visit_1 : decode cX2_visit 1 = .ok (.getfield 51, 3) := by decide +kernel
theorem dX2_visit_4 : decode cX2_visit 4 = .ok (.ifCond .eq 14, 3) := by decide +kernel
theorem dX2_visit_7 : decode cX2_visit 7 = .ok (.aload_n 0, 1) := by decide +kernel
theorem dX2_visit_8 : decode cX2_visit 8 = .ok (.iload 4, 2) := by decide +kernel
theorem dX2_visit_10 : decode cX2_visit 10 = .ok (.iload_n 3, 1) := by decide +kernel
theorem dX2_visit_11 : decode cX2_visit 11 = .ok (.invokevirtual 75, 3) := by decide +kernel
theorem dX2_visit_14 : decode cX2_visit 14 = .ok (.ifCond .ne 4, 3) := by decide +kernel
theorem dX2_visit_17 : decode cX2_visit 17 = .ok (.return_, 1) := by decide +kernel
theorem dX2_visit_18 : decode cX2_visit 18 = .ok (.iload_n 1, 1) := by decide +kernel
theorem dX2_visit_19 : decode cX2_visit 19 = .ok (.aload_n 0, 1) := by decide +kernel
theorem dX2_visit_20 : decode cX2_visit 20 = .ok (.getfield 9, 3) := by decide +kernel
theorem dX2_visit_23 : decode cX2_visit 23 = .ok (.if_icmp .lt 11, 3) := by decide +kernel
theorem dX2_visit_26 : decode cX2_visit 26 = .ok (.aload_n 0, 1) := by decide +kernel
theorem dX2_visit_27 : decode cX2_visit 27 = .ok (.iload 4, 2) := by decide +kernel
theorem dX2_visit_29 : decode cX2_visit 29 = .ok (.iload_n 3, 1) := by decide +kernel
theorem dX2_visit_30 : decode cX2_visit 30 = .ok (.invokevirtual 79, 3) := by decide +kernel
theorem dX2_visit_33 : decode cX2_visit 33 = .ok (.return_, 1) := by decide +kernel
theorem dX2_visit_34 : decode cX2_visit 34 = .ok (.iconst 0, 1) := by decide +kernel
theorem dX2_visit_35 : decode cX2_visit 35 = .ok (.istore 5, 2) := by decide +kernel
theorem dX2_visit_37 : decode cX2_visit 37 = .ok (.iload 5, 2) := by decide +kernel
theorem dX2_visit_39 : decode cX2_visit 39 = .ok (.aload_n 0, 1) := by decide +kernel
theorem dX2_visit_40 : decode cX2_visit 40 = .ok (.getfield 9, 3) := by decide +kernel
theorem dX2_visit_43 : decode cX2_visit 43 = .ok (.if_icmp .ge 85, 3) := by decide +kernel
theorem dX2_visit_46 : decode cX2_visit 46 = .ok (.aload_n 0, 1) := by decide +kernel
theorem dX2_visit_47 : decode cX2_visit 47 = .ok (.getfield 33, 3) := by decide +kernel
theorem dX2_visit_50 : decode cX2_visit 50 = .ok (.iload 5, 2) := by decide +kernel
theorem dX2_visit_52 : decode cX2_visit 52 = .ok (.baload, 1) := by decide +kernel
theorem dX2_visit_53 : decode cX2_visit 53 = .ok (.ifCond .ne 69, 3) := by decide +kernel
theorem dX2_visit_56 : decode cX2_visit 56 = .ok (.iload_n 3, 1) := by decide +kernel
theorem dX2_visit_57 : decode cX2_visit 57 = .ok (.iload_n 2, 1) := by decide +kernel
theorem dX2_visit_58 : decode cX2_visit 58 = .ok (.aload_n 0, 1) := by decide +kernel
theorem dX2_visit_59 : decode cX2_visit 59 = .ok (.getfield 19, 3) := by decide +kernel
theorem dX2_visit_62 : decode cX2_visit 62 = .ok (.iload 5, 2) := by decide +kernel
theorem dX2_visit_64 : decode cX2_visit 64 = .ok (.iaload, 1) := by decide +kernel
theorem dX2_visit_65 : decode cX2_visit 65 = .ok (.invokestatic 83, 3) := by decide +kernel
theorem dX2_visit_68 : decode cX2_visit 68 = .ok (.iadd, 1) := by decide +kernel
theorem dX2_visit_69 : decode cX2_visit 69 = .ok (.istore 6, 2) := by decide +kernel
theorem dX2_visit_71 : decode cX2_visit 71 = .ok (.aload_n 0, 1) := by decide +kernel
theorem dX2_visit_72 : decode cX2_visit 72 = .ok (.getfield 33, 3) := by decide +kernel
theorem dX2_visit_75 : decode cX2_visit 75 = .ok (.iload 5, 2) := by decide +kernel
theorem dX2_visit_77 : decode cX2_visit 77 = .ok (.iconst 1, 1) := by decide +kernel
theorem dX2_visit_78 : decode cX2_visit 78 = .ok (.bastore, 1) := by decide +kernel
theorem dX2_visit_79 : decode cX2_visit 79 = .ok (.aload_n 0, 1) := by decide +kernel
theorem dX2_visit_80 : decode cX2_visit 80 = .ok (.getfield 27, 3) := by decide +kernel
theorem dX2_visit_83 : decode cX2_visit 83 = .ok (.iload_n 1, 1) := by decide +kernel
theorem dX2_visit_84 : decode cX2_visit 84 = .ok (.iload 5, 2) := by decide +kernel
theorem dX2_visit_86 : decode cX2_visit 86 = .ok (.iastore, 1) := by decide +kernel
theorem dX2_visit_87 : decode cX2_visit 87 = .ok (.aload_n 0, 1) := by decide +kernel
theorem dX2_visit_88 : decode cX2_visit 88 = .ok (.iload_n 1, 1) := by decide +kernel
theorem dX2_visit_89 : decode cX2_visit 89 = .ok (.iconst 1, 1) := by decide +kernel
theorem dX2_visit_90 : decode cX2_visit 90 = .ok (.iadd, 1) := by decide +kernel
theorem dX2_visit_91 : decode cX2_visit 91 = .ok (.aload_n 0, 1) := by decide +kernel
theorem dX2_visit_92 : decode cX2_visit 92 = .ok (.getfield 19, 3) := by decide +kernel
theorem dX2_visit_95 : decode cX2_visit 95 = .ok (.iload 5, 2) := by decide +kernel
theorem dX2_visit_97 : decode cX2_visit 97 = .ok (.iaload, 1) := by decide +kernel
theorem dX2_visit_98 : decode cX2_visit 98 = .ok (.iload 6, 2) := by decide +kernel
theorem dX2_visit_100 : decode cX2_visit 100 = .ok (.iload 4, 2) := by decide +kernel
theorem dX2_visit_102 : decode cX2_visit 102 = .ok (.aload_n 0, 1) := by decide +kernel
theorem dX2_visit_103 : decode cX2_visit 103 = .ok (.iload 5, 2) := by decide +kernel
theorem dX2_visit_105 : decode cX2_visit 105 = .ok (.iload 6, 2) := by decide +kernel
theorem dX2_visit_107 : decode cX2_visit 107 = .ok (.invokevirtual 86, 3) := by decide +kernel
theorem dX2_visit_110 : decode cX2_visit 110 = .ok (.iadd, 1) := by decide +kernel
theorem dX2_visit_111 : decode cX2_visit 111 = .ok (.invokestatic 89, 3) := by decide +kernel
theorem dX2_visit_114 : decode cX2_visit 114 = .ok (.aload_n 0, 1) := by decide +kernel
theorem dX2_visit_115 : decode cX2_visit 115 = .ok (.getfield 33, 3) := by decide +kernel
theorem dX2_visit_118 : decode cX2_visit 118 = .ok (.iload 5, 2) := by decide +kernel
theorem dX2_visit_120 : decode cX2_visit 120 = .ok (.iconst 0, 1) := by decide +kernel
theorem dX2_visit_121 : decode cX2_visit 121 = .ok (.bastore, 1) := by decide +kernel
theorem dX2_visit_122 : decode cX2_visit 122 = .ok (.iinc 5 1, 3) := by decide +kernel
theorem dX2_visit_125 : decode cX2_visit 125 = .ok (.goto (-88), 3) := by decide +kernel
theorem dX2_visit_128 : decode cX2_visit 128 = .ok (.return_, 1) := by decide +kernel
theorem dX2_stepsBetween_0 : decode cX2_stepsBetween 0 = .ok (.iload_n 0, 1) := by decide +kernel
theorem dX2_stepsBetween_1 : decode cX2_stepsBetween 1 = .ok (.bipush 100, 2) := by decide +kernel
theorem dX2_stepsBetween_3 : decode cX2_stepsBetween 3 = .ok (.idiv, 1) := by decide +kernel
theorem dX2_stepsBetween_4 : decode cX2_stepsBetween 4 = .ok (.iload_n 1, 1) := by decide +kernel
theorem dX2_stepsBetween_5 : decode cX2_stepsBetween 5 = .ok (.bipush 100, 2) := by decide +kernel
theorem dX2_stepsBetween_7 : decode cX2_stepsBetween 7 = .ok (.idiv, 1) := by decide +kernel
theorem dX2_stepsBetween_8 : decode cX2_stepsBetween 8 = .ok (.isub, 1) := by decide +kernel
theorem dX2_stepsBetween_9 : decode cX2_stepsBetween 9 = .ok (.invokestatic 93, 3) := by decide +kernel
theorem dX2_stepsBetween_12 : decode cX2_stepsBetween 12 = .ok (.iload_n 0, 1) := by decide +kernel
theorem dX2_stepsBetween_13 : decode cX2_stepsBetween 13 = .ok (.bipush 100, 2) := by decide +kernel
theorem dX2_stepsBetween_15 : decode cX2_stepsBetween 15 = .ok (.irem, 1) := by decide +kernel
theorem dX2_stepsBetween_16 : decode cX2_stepsBetween 16 = .ok (.iload_n 1, 1) := by decide +kernel
theorem dX2_stepsBetween_17 : decode cX2_stepsBetween 17 = .ok (.bipush 100, 2) := by decide +kernel
theorem dX2_stepsBetween_19 : decode cX2_stepsBetween 19 = .ok (.irem, 1) := by decide +kernel
theorem dX2_stepsBetween_20 : decode cX2_stepsBetween 20 = .ok (.isub, 1) := by decide +kernel
theorem dX2_stepsBetween_21 : decode cX2_stepsBetween 21 = .ok (.invokestatic 93, 3) := by decide +kernel
theorem dX2_stepsBetween_24 : decode cX2_stepsBetween 24 = .ok (.iadd, 1) := by decide +kernel
theorem dX2_stepsBetween_25 : decode cX2_stepsBetween 25 = .ok (.ireturn, 1) := by decide +kernel
theorem dX2_spilledBy_0 : decode cX2_spilledBy 0 = .ok (.aload_n 0, 1) := by decide +kernel
theorem dX2_spilledBy_1 : decode cX2_spilledBy 1 = .ok (.getfield 24, 3) := by decide +kernel
theorem dX2_spilledBy_4 : decode cX2_spilledBy 4 = .ok (.iload_n 1, 1) := by decide +kernel
theorem dX2_spilledBy_5 : decode cX2_spilledBy 5 = .ok (.aaload, 1) := by decide +kernel
theorem dX2_spilledBy_6 : decode cX2_spilledBy 6 = .ok (.iload_n 2, 1) := by decide +kernel
theorem dX2_spilledBy_7 : decode cX2_spilledBy 7 = .ok (.bipush 60, 2) := by decide +kernel
theorem dX2_spilledBy_9 : decode cX2_spilledBy 9 = .ok (.idiv, 1) := by decide +kernel
theorem dX2_spilledBy_10 : decode cX2_spilledBy 10 = .ok (.bipush 19, 2) := by decide +kernel
theorem dX2_spilledBy_12 : decode cX2_spilledBy 12 = .ok (.invokestatic 61, 3) := by decide +kernel
theorem dX2_spilledBy_15 : decode cX2_spilledBy 15 = .ok (.iaload, 1) := by decide +kernel
theorem dX2_spilledBy_16 : decode cX2_spilledBy 16 = .ok (.ireturn, 1) := by decide +kernel
theorem dX2_beatsBest_0 : decode cX2_beatsBest 0 = .ok (.iload_n 1, 1) := by decide +kernel
theorem dX2_beatsBest_1 : decode cX2_beatsBest 1 = .ok (.aload_n 0, 1) := by decide +kernel
theorem dX2_beatsBest_2 : decode cX2_beatsBest 2 = .ok (.getfield 55, 3) := by decide +kernel
theorem dX2_beatsBest_5 : decode cX2_beatsBest 5 = .ok (.if_icmp .lt 19, 3) := by decide +kernel
theorem dX2_beatsBest_8 : decode cX2_beatsBest 8 = .ok (.iload_n 1, 1) := by decide +kernel
theorem dX2_beatsBest_9 : decode cX2_beatsBest 9 = .ok (.aload_n 0, 1) := by decide +kernel
theorem dX2_beatsBest_10 : decode cX2_beatsBest 10 = .ok (.getfield 55, 3) := by decide +kernel
theorem dX2_beatsBest_13 : decode cX2_beatsBest 13 = .ok (.if_icmp .ne 15, 3) := by decide +kernel
theorem dX2_beatsBest_16 : decode cX2_beatsBest 16 = .ok (.iload_n 2, 1) := by decide +kernel
theorem dX2_beatsBest_17 : decode cX2_beatsBest 17 = .ok (.aload_n 0, 1) := by decide +kernel
theorem dX2_beatsBest_18 : decode cX2_beatsBest 18 = .ok (.getfield 58, 3) := by decide +kernel
theorem dX2_beatsBest_21 : decode cX2_beatsBest 21 = .ok (.if_icmp .ge 7, 3) := by decide +kernel
theorem dX2_beatsBest_24 : decode cX2_beatsBest 24 = .ok (.iconst 1, 1) := by decide +kernel
theorem dX2_beatsBest_25 : decode cX2_beatsBest 25 = .ok (.goto 4, 3) := by decide +kernel
theorem dX2_beatsBest_28 : decode cX2_beatsBest 28 = .ok (.iconst 0, 1) := by decide +kernel
theorem dX2_beatsBest_29 : decode cX2_beatsBest 29 = .ok (.ireturn, 1) := by decide +kernel
theorem dX2_keepBest_0 : decode cX2_keepBest 0 = .ok (.aload_n 0, 1) := by decide +kernel
theorem dX2_keepBest_1 : decode cX2_keepBest 1 = .ok (.iconst 1, 1) := by decide +kernel
theorem dX2_keepBest_2 : decode cX2_keepBest 2 = .ok (.putfield 51, 3) := by decide +kernel
theorem dX2_keepBest_5 : decode cX2_keepBest 5 = .ok (.aload_n 0, 1) := by decide +kernel
theorem dX2_keepBest_6 : decode cX2_keepBest 6 = .ok (.iload_n 1, 1) := by decide +kernel
theorem dX2_keepBest_7 : decode cX2_keepBest 7 = .ok (.putfield 55, 3) := by decide +kernel
theorem dX2_keepBest_10 : decode cX2_keepBest 10 = .ok (.aload_n 0, 1) := by decide +kernel
theorem dX2_keepBest_11 : decode cX2_keepBest 11 = .ok (.iload_n 2, 1) := by decide +kernel
theorem dX2_keepBest_12 : decode cX2_keepBest 12 = .ok (.putfield 58, 3) := by decide +kernel
theorem dX2_keepBest_15 : decode cX2_keepBest 15 = .ok (.iconst 0, 1) := by decide +kernel
theorem dX2_keepBest_16 : decode cX2_keepBest 16 = .ok (.istore_n 3, 1) := by decide +kernel
theorem dX2_keepBest_17 : decode cX2_keepBest 17 = .ok (.iload_n 3, 1) := by decide +kernel
theorem dX2_keepBest_18 : decode cX2_keepBest 18 = .ok (.aload_n 0, 1) := by decide +kernel
theorem dX2_keepBest_19 : decode cX2_keepBest 19 = .ok (.getfield 9, 3) := by decide +kernel
theorem dX2_keepBest_22 : decode cX2_keepBest 22 = .ok (.if_icmp .ge 21, 3) := by decide +kernel
theorem dX2_keepBest_25 : decode cX2_keepBest 25 = .ok (.aload_n 0, 1) := by decide +kernel
theorem dX2_keepBest_26 : decode cX2_keepBest 26 = .ok (.getfield 30, 3) := by decide +kernel
theorem dX2_keepBest_29 : decode cX2_keepBest 29 = .ok (.iload_n 3, 1) := by decide +kernel
theorem dX2_keepBest_30 : decode cX2_keepBest 30 = .ok (.aload_n 0, 1) := by decide +kernel
theorem dX2_keepBest_31 : decode cX2_keepBest 31 = .ok (.getfield 27, 3) := by decide +kernel
theorem dX2_keepBest_34 : decode cX2_keepBest 34 = .ok (.iload_n 3, 1) := by decide +kernel
theorem dX2_keepBest_35 : decode cX2_keepBest 35 = .ok (.iaload, 1) := by decide +kernel
theorem dX2_keepBest_36 : decode cX2_keepBest 36 = .ok (.iastore, 1) := by decide +kernel
theorem dX2_keepBest_37 : decode cX2_keepBest 37 = .ok (.iinc 3 1, 3) := by decide +kernel
theorem dX2_keepBest_40 : decode cX2_keepBest 40 = .ok (.goto (-23), 3) := by decide +kernel
theorem dX2_keepBest_43 : decode cX2_keepBest 43 = .ok (.return_, 1) := by decide +kernel
theorem dX3_init_0 : decode cX3_init 0 = .ok (.aload_n 0, 1) := by decide +kernel
theorem dX3_init_1 : decode cX3_init 1 = .ok (.invokespecial 1, 3) := by decide +kernel
theorem dX3_init_4 : decode cX3_init 4 = .ok (.aload_n 0, 1) := by decide +kernel
theorem dX3_init_5 : decode cX3_init 5 = .ok (.iconst 0, 1) := by decide +kernel
theorem dX3_init_6 : decode cX3_init 6 = .ok (.putfield 7, 3) := by decide +kernel
theorem dX3_init_9 : decode cX3_init 9 = .ok (.aload_n 0, 1) := by decide +kernel
theorem dX3_init_10 : decode cX3_init 10 = .ok (.iconst 0, 1) := by decide +kernel
theorem dX3_init_11 : decode cX3_init 11 = .ok (.putfield 13, 3) := by decide +kernel
theorem dX3_init_14 : decode cX3_init 14 = .ok (.aload_n 0, 1) := by decide +kernel
theorem dX3_init_15 : decode cX3_init 15 = .ok (.iconst 0, 1) := by decide +kernel
theorem dX3_init_16 : decode cX3_init 16 = .ok (.putfield 16, 3) := by decide +kernel
theorem dX3_init_19 : decode cX3_init 19 = .ok (.return_, 1) := by decide +kernel
set_option maxRecDepth 20000 in
theorem ggX4_init_Jx4a65c_init_da8c8 : GoodIn wsX4_init wsJx4a65c_init_da8c8 := goodIn_r _ [16, 17, 18, 19, 20, 21, 22, 23, 24, 25, 26, 27, 28, 2, 3, 29, 30, 31] (by decide +kernel) (by decide +kernel)
set_option maxRecDepth 20000 in
theorem gX4_init_Jx4a65c_init_da8c8 : GoodIn wsX4_init (wsJx4a65c_init_da8c8) := ggX4_init_Jx4a65c_init_da8c8
theorem dX4_init_0 : decode cX4_init 0 = .ok (.aload_n 0, 1) := by decide +kernel
theorem dX4_init_1 : decode cX4_init 1 = .ok (.invokespecial 3, 3) := by decide +kernel
theorem dX4_init_4 : decode cX4_init 4 = .ok (.aload_n 0, 1) := by decide +kernel
theorem dX4_init_5 : decode cX4_init 5 = .ok (.new 9, 3) := by decide +kernel
theorem dX4_init_8 : decode cX4_init 8 = .ok (.dup, 1) := by decide +kernel
theorem dX4_init_9 : decode cX4_init 9 = .ok (.invokespecial 11, 3) := by decide +kernel
theorem dX4_init_12 : decode cX4_init 12 = .ok (.putfield 12, 3) := by decide +kernel
theorem dX4_init_15 : decode cX4_init 15 = .ok (.aload_n 0, 1) := by decide +kernel
theorem dX4_init_16 : decode cX4_init 16 = .ok (.iconst 0, 1) := by decide +kernel
theorem dX4_init_17 : decode cX4_init 17 = .ok (.putfield 18, 3) := by decide +kernel
theorem dX4_init_20 : decode cX4_init 20 = .ok (.aload_n 0, 1) := by decide +kernel
theorem dX4_init_21 : decode cX4_init 21 = .ok (.iconst 0, 1) := by decide +kernel
theorem dX4_init_22 : decode cX4_init 22 = .ok (.putfield 22, 3) := by decide +kernel
theorem dX4_init_25 : decode cX4_init 25 = .ok (.aload_n 0, 1) := by decide +kernel
theorem dX4_init_26 : decode cX4_init 26 = .ok (.iload_n 1, 1) := by decide +kernel
theorem dX4_init_27 : decode cX4_init 27 = .ok (.putfield 26, 3) := by decide +kernel
theorem dX4_init_30 : decode cX4_init 30 = .ok (.aload_n 0, 1) := by decide +kernel
theorem dX4_init_31 : decode cX4_init 31 = .ok (.aload_n 2, 1) := by decide +kernel
theorem dX4_init_32 : decode cX4_init 32 = .ok (.putfield 29, 3) := by decide +kernel
theorem dX4_init_35 : decode cX4_init 35 = .ok (.aload_n 0, 1) := by decide +kernel
theorem dX4_init_36 : decode cX4_init 36 = .ok (.iload_n 3, 1) := by decide +kernel
theorem dX4_init_37 : decode cX4_init 37 = .ok (.putfield 33, 3) := by decide +kernel
theorem dX4_init_40 : decode cX4_init 40 = .ok (.aload_n 0, 1) := by decide +kernel
theorem dX4_init_41 : decode cX4_init 41 = .ok (.iload 4, 2) := by decide +kernel
theorem dX4_init_43 : decode cX4_init 43 = .ok (.putfield 36, 3) := by decide +kernel
theorem dX4_init_46 : decode cX4_init 46 = .ok (.return_, 1) := by decide +kernel
set_option maxRecDepth 20000 in
theorem ggX4_faceAt_Jx4a65c_size_8abf5 : GoodIn wsX4_faceAt wsJx4a65c_size_8abf5 := goodIn_r _ [7, 8, 33, 34, 35] (by decide +kernel) (by decide +kernel)
set_option maxRecDepth 20000 in
theorem gX4_faceAt_Jx4a65c_size_8abf5_f39Jx4a65c : GoodIn wsX4_faceAt (va_wsF RX4 39 RJx4a65c ⟨"java/util/List", "size", "()I"⟩ yJx4a65c_size_8abf5 wsJx4a65c_size_8abf5) := goodIn_app (goodIn_of _ (by decide +kernel)) ggX4_faceAt_Jx4a65c_size_8abf5
set_option maxRecDepth 20000 in
theorem ggX4_faceAt_Jx4a65c_get_915e3 : GoodIn wsX4_faceAt wsJx4a65c_get_915e3 := goodIn_r _ [12, 8, 13, 14, 15, 16, 17, 18, 19, 20, 21, 22, 23, 6, 24, 25, 33, 34, 35] (by decide +kernel) (by decide +kernel)
set_option maxRecDepth 20000 in
theorem gX4_faceAt_Jx4a65c_get_915e3_f45Jx4a65c : GoodIn wsX4_faceAt (va_wsF RX4 45 RJx4a65c ⟨"java/util/List", "get", "(I)Ljava/lang/Object;"⟩ yJx4a65c_get_915e3 wsJx4a65c_get_915e3) := goodIn_app (goodIn_of _ (by decide +kernel)) ggX4_faceAt_Jx4a65c_get_915e3
theorem dX4_faceAt_0 : decode cX4_faceAt 0 = .ok (.iload_n 1, 1) := by decide +kernel
theorem dX4_faceAt_1 : decode cX4_faceAt 1 = .ok (.ifCond .lt 16, 3) := by decide +kernel
theorem dX4_faceAt_4 : decode cX4_faceAt 4 = .ok (.iload_n 1, 1) := by decide +kernel
theorem dX4_faceAt_5 : decode cX4_faceAt 5 = .ok (.aload_n 0, 1) := by decide +kernel
theorem dX4_faceAt_6 : decode cX4_faceAt 6 = .ok (.getfield 12, 3) := by decide +kernel
theorem dX4_faceAt_9 : decode cX4_faceAt 9 = .ok (.invokeinterface 39 1, 5) := by decide +kernel
theorem dX4_faceAt_14 : decode cX4_faceAt 14 = .ok (.if_icmp .lt 7, 3) := by decide +kernel
theorem dX4_faceAt_17 : decode cX4_faceAt 17 = .ok (.aconst_null, 1) := by decide +kernel
theorem dX4_faceAt_18 : decode cX4_faceAt 18 = .ok (.goto 16, 3) := by decide +kernel
theorem dX4_faceAt_21 : decode cX4_faceAt 21 = .ok (.aload_n 0, 1) := by decide +kernel
theorem dX4_faceAt_22 : decode cX4_faceAt 22 = .ok (.getfield 12, 3) := by decide +kernel
theorem dX4_faceAt_25 : decode cX4_faceAt 25 = .ok (.iload_n 1, 1) := by decide +kernel
theorem dX4_faceAt_26 : decode cX4_faceAt 26 = .ok (.invokeinterface 45 2, 5) := by decide +kernel
theorem dX4_faceAt_31 : decode cX4_faceAt 31 = .ok (.checkcast 49, 3) := by decide +kernel
theorem dX4_faceAt_34 : decode cX4_faceAt 34 = .ok (.areturn, 1) := by decide +kernel
set_option maxRecDepth 20000 in
theorem ggX4_mayOpen_Jx4a65c_size_8abf5 : GoodIn wsX4_mayOpen wsJx4a65c_size_8abf5 := goodIn_r _ [7, 8, 16, 17, 18] (by decide +kernel) (by decide +kernel)
set_option maxRecDepth 20000 in
theorem gX4_mayOpen_Jx4a65c_size_8abf5_f39Jx4a65c : GoodIn wsX4_mayOpen (va_wsF RX4 39 RJx4a65c ⟨"java/util/List", "size", "()I"⟩ yJx4a65c_size_8abf5 wsJx4a65c_size_8abf5) := goodIn_app (goodIn_of _ (by decide +kernel)) ggX4_mayOpen_Jx4a65c_size_8abf5
theorem dX4_mayOpen_0 : decode cX4_mayOpen 0 = .ok (.iload_n 1, 1) := by decide +kernel
theorem dX4_mayOpen_1 : decode cX4_mayOpen 1 = .ok (.aload_n 0, 1) := by decide +kernel
theorem dX4_mayOpen_2 : decode cX4_mayOpen 2 = .ok (.getfield 12, 3) := by decide +kernel
theorem dX4_mayOpen_5 : decode cX4_mayOpen 5 = .ok (.invokeinterface 39 1, 5) := by decide +kernel
theorem dX4_mayOpen_10 : decode cX4_mayOpen 10 = .ok (.if_icmp .ne 15, 3) := by decide +kernel
theorem dX4_mayOpen_13 : decode cX4_mayOpen 13 = .ok (.iload_n 1, 1) := by decide +kernel
theorem dX4_mayOpen_14 : decode cX4_mayOpen 14 = .ok (.aload_n 0, 1) := by decide +kernel
theorem dX4_mayOpen_15 : decode cX4_mayOpen 15 = .ok (.getfield 36, 3) := by decide +kernel
theorem dX4_mayOpen_18 : decode cX4_mayOpen 18 = .ok (.if_icmp .ge 7, 3) := by decide +kernel
theorem dX4_mayOpen_21 : decode cX4_mayOpen 21 = .ok (.iconst 1, 1) := by decide +kernel
theorem dX4_mayOpen_22 : decode cX4_mayOpen 22 = .ok (.goto 4, 3) := by decide +kernel
theorem dX4_mayOpen_25 : decode cX4_mayOpen 25 = .ok (.iconst 0, 1) := by decide +kernel
theorem dX4_mayOpen_26 : decode cX4_mayOpen 26 = .ok (.ireturn, 1) := by decide +kernel
set_option maxRecDepth 20000 in
theorem ggX4_openFace_X1_init : GoodIn wsX4_openFace wsX1_init := goodIn_r _ [7, 8, 9, 10, 11, 12, 13, 14, 15, 16, 17, 77, 78, 79, 80, 81, 82] (by decide +kernel) (by decide +kernel)
set_option maxRecDepth 20000 in
theorem gX4_openFace_X1_init_n51 : GoodIn wsX4_openFace (wsX1_init) := ggX4_openFace_X1_init
set_option maxRecDepth 20000 in
theorem ggX4_openFace_X6_yearOf : GoodIn wsX4_openFace wsX6_yearOf := goodIn_r _ [20] (by decide +kernel) (by decide +kernel)
set_option maxRecDepth 20000 in
theorem gX4_openFace_X6_yearOf_n52 : GoodIn wsX4_openFace (wsX6_yearOf) := ggX4_openFace_X6_yearOf
set_option maxRecDepth 20000 in
theorem ggX4_openFace_Jx4a65c_add_9ea2d : GoodIn wsX4_openFace wsJx4a65c_add_9ea2d := goodIn_r _ [25, 26, 27, 28, 29, 30, 31, 32, 24, 33, 34, 35, 36, 37, 38, 39, 40, 41, 42, 43, 44, 45, 46, 47, 48, 49, 50, 51, 52, 53, 54, 55, 56, 57, 58, 59, 60, 61, 62, 63, 64, 65, 66, 67, 68, 69, 70, 71, 72, 73, 74, 75, 76, 90, 91, 92] (by decide +kernel) (by decide +kernel)
set_option maxRecDepth 20000 in
theorem gX4_openFace_Jx4a65c_add_9ea2d_f59Jx4a65c : GoodIn wsX4_openFace (va_wsF RX4 59 RJx4a65c ⟨"java/util/List", "add", "(Ljava/lang/Object;)Z"⟩ yJx4a65c_add_9ea2d wsJx4a65c_add_9ea2d) := goodIn_app (goodIn_of _ (by decide +kernel)) ggX4_openFace_Jx4a65c_add_9ea2d
theorem dX4_openFace_0 : decode cX4_openFace 0 = .ok (.new 49, 3) := by decide +kernel
theorem dX4_openFace_3 : decode cX4_openFace 3 = .ok (.dup, 1) := by decide +kernel
theorem dX4_openFace_4 : decode cX4_openFace 4 = .ok (.invokespecial 51, 3) := by decide +kernel
theorem dX4_openFace_7 : decode cX4_openFace 7 = .ok (.astore_n 2, 1) := by decide +kernel
theorem dX4_openFace_8 : decode cX4_openFace 8 = .ok (.aload_n 2, 1) := by decide +kernel
theorem dX4_openFace_9 : decode cX4_openFace 9 = .ok (.iload_n 1, 1) := by decide +kernel
theorem dX4_openFace_10 : decode cX4_openFace 10 = .ok (.invokestatic 52, 3) := by decide +kernel
theorem dX4_openFace_13 : decode cX4_openFace 13 = .ok (.putfield 56, 3) := by decide +kernel
theorem dX4_openFace_16 : decode cX4_openFace 16 = .ok (.aload_n 0, 1) := by decide +kernel
theorem dX4_openFace_17 : decode cX4_openFace 17 = .ok (.getfield 12, 3) := by decide +kernel
theorem dX4_openFace_20 : decode cX4_openFace 20 = .ok (.aload_n 2, 1) := by decide +kernel
theorem dX4_openFace_21 : decode cX4_openFace 21 = .ok (.invokeinterface 59 2, 5) := by decide +kernel
theorem dX4_openFace_26 : decode cX4_openFace 26 = .ok (.pop, 1) := by decide +kernel
theorem dX4_openFace_27 : decode cX4_openFace 27 = .ok (.aload_n 2, 1) := by decide +kernel
theorem dX4_openFace_28 : decode cX4_openFace 28 = .ok (.areturn, 1) := by decide +kernel
set_option maxRecDepth 20000 in
theorem ggX4_streakOn_X6_yearOf : GoodIn wsX4_streakOn wsX6_yearOf := goodIn_r _ [6] (by decide +kernel) (by decide +kernel)
set_option maxRecDepth 20000 in
theorem gX4_streakOn_X6_yearOf_n52 : GoodIn wsX4_streakOn (wsX6_yearOf) := ggX4_streakOn_X6_yearOf
theorem dX4_streakOn_0 : decode cX4_streakOn 0 = .ok (.aload_n 1, 1) := by decide +kernel
theorem dX4_streakOn_1 : decode cX4_streakOn 1 = .ok (.dup, 1) := by decide +kernel
theorem dX4_streakOn_2 : decode cX4_streakOn 2 = .ok (.getfield 63, 3) := by decide +kernel
theorem dX4_streakOn_5 : decode cX4_streakOn 5 = .ok (.iconst 1, 1) := by decide +kernel
theorem dX4_streakOn_6 : decode cX4_streakOn 6 = .ok (.iadd, 1) := by decide +kernel
theorem dX4_streakOn_7 : decode cX4_streakOn 7 = .ok (.putfield 63, 3) := by decide +kernel
theorem dX4_streakOn_10 : decode cX4_streakOn 10 = .ok (.aload_n 1, 1) := by decide +kernel
theorem dX4_streakOn_11 : decode cX4_streakOn 11 = .ok (.iload_n 2, 1) := by decide +kernel
theorem dX4_streakOn_12 : decode cX4_streakOn 12 = .ok (.putfield 66, 3) := by decide +kernel
theorem dX4_streakOn_15 : decode cX4_streakOn 15 = .ok (.aload_n 0, 1) := by decide +kernel
theorem dX4_streakOn_16 : decode cX4_streakOn 16 = .ok (.dup, 1) := by decide +kernel
theorem dX4_streakOn_17 : decode cX4_streakOn 17 = .ok (.getfield 22, 3) := by decide +kernel
theorem dX4_streakOn_20 : decode cX4_streakOn 20 = .ok (.iconst 1, 1) := by decide +kernel
theorem dX4_streakOn_21 : decode cX4_streakOn 21 = .ok (.iload_n 2, 1) := by decide +kernel
theorem dX4_streakOn_22 : decode cX4_streakOn 22 = .ok (.invokestatic 52, 3) := by decide +kernel
theorem dX4_streakOn_25 : decode cX4_streakOn 25 = .ok (.ishl, 1) := by decide +kernel
theorem dX4_streakOn_26 : decode cX4_streakOn 26 = .ok (.ior, 1) := by decide +kernel
theorem dX4_streakOn_27 : decode cX4_streakOn 27 = .ok (.putfield 22, 3) := by decide +kernel
theorem dX4_streakOn_30 : decode cX4_streakOn 30 = .ok (.aload_n 1, 1) := by decide +kernel
theorem dX4_streakOn_31 : decode cX4_streakOn 31 = .ok (.getfield 63, 3) := by decide +kernel
theorem dX4_streakOn_34 : decode cX4_streakOn 34 = .ok (.ireturn, 1) := by decide +kernel
theorem dX4_restsIn_0 : decode cX4_restsIn 0 = .ok (.bipush 15, 2) := by decide +kernel
theorem dX4_restsIn_2 : decode cX4_restsIn 2 = .ok (.istore_n 2, 1) := by decide +kernel
theorem dX4_restsIn_3 : decode cX4_restsIn 3 = .ok (.iload_n 1, 1) := by decide +kernel
theorem dX4_restsIn_4 : decode cX4_restsIn 4 = .ok (.iconst 4, 1) := by decide +kernel
theorem dX4_restsIn_5 : decode cX4_restsIn 5 = .ok (.if_icmp .lt 21, 3) := by decide +kernel
theorem dX4_restsIn_8 : decode cX4_restsIn 8 = .ok (.aload_n 0, 1) := by decide +kernel
theorem dX4_restsIn_9 : decode cX4_restsIn 9 = .ok (.getfield 22, 3) := by decide +kernel
theorem dX4_restsIn_12 : decode cX4_restsIn 12 = .ok (.iload_n 1, 1) := by decide +kernel
theorem dX4_restsIn_13 : decode cX4_restsIn 13 = .ok (.iconst 4, 1) := by decide +kernel
theorem dX4_restsIn_14 : decode cX4_restsIn 14 = .ok (.isub, 1) := by decide +kernel
theorem dX4_restsIn_15 : decode cX4_restsIn 15 = .ok (.ishr, 1) := by decide +kernel
theorem dX4_restsIn_16 : decode cX4_restsIn 16 = .ok (.iload_n 2, 1) := by decide +kernel
theorem dX4_restsIn_17 : decode cX4_restsIn 17 = .ok (.iand, 1) := by decide +kernel
theorem dX4_restsIn_18 : decode cX4_restsIn 18 = .ok (.iload_n 2, 1) := by decide +kernel
theorem dX4_restsIn_19 : decode cX4_restsIn 19 = .ok (.if_icmp .ne 7, 3) := by decide +kernel
theorem dX4_restsIn_22 : decode cX4_restsIn 22 = .ok (.iconst 1, 1) := by decide +kernel
theorem dX4_restsIn_23 : decode cX4_restsIn 23 = .ok (.goto 4, 3) := by decide +kernel
theorem dX4_restsIn_26 : decode cX4_restsIn 26 = .ok (.iconst 0, 1) := by decide +kernel
theorem dX4_restsIn_27 : decode cX4_restsIn 27 = .ok (.ireturn, 1) := by decide +kernel
set_option maxRecDepth 20000 in
theorem ggX4_inCups_Jx4a65c_size_8abf5 : GoodIn wsX4_inCups wsJx4a65c_size_8abf5 := goodIn_r _ [8, 9, 40, 41, 42] (by decide +kernel) (by decide +kernel)
set_option maxRecDepth 20000 in
theorem gX4_inCups_Jx4a65c_size_8abf5_f39Jx4a65c : GoodIn wsX4_inCups (va_wsF RX4 39 RJx4a65c ⟨"java/util/List", "size", "()I"⟩ yJx4a65c_size_8abf5 wsJx4a65c_size_8abf5) := goodIn_app (goodIn_of _ (by decide +kernel)) ggX4_inCups_Jx4a65c_size_8abf5
set_option maxRecDepth 20000 in
theorem ggX4_inCups_Jx4a65c_get_915e3 : GoodIn wsX4_inCups wsJx4a65c_get_915e3 := goodIn_r _ [13, 9, 14, 15, 16, 17, 18, 19, 20, 21, 22, 23, 24, 7, 25, 26, 40, 41, 42] (by decide +kernel) (by decide +kernel)
set_option maxRecDepth 20000 in
theorem gX4_inCups_Jx4a65c_get_915e3_f45Jx4a65c : GoodIn wsX4_inCups (va_wsF RX4 45 RJx4a65c ⟨"java/util/List", "get", "(I)Ljava/lang/Object;"⟩ yJx4a65c_get_915e3 wsJx4a65c_get_915e3) := goodIn_app (goodIn_of _ (by decide +kernel)) ggX4_inCups_Jx4a65c_get_915e3
theorem dX4_inCups_0 : decode cX4_inCups 0 = .ok (.iconst 0, 1) := by decide +kernel
theorem dX4_inCups_1 : decode cX4_inCups 1 = .ok (.istore_n 1, 1) := by decide +kernel
theorem dX4_inCups_2 : decode cX4_inCups 2 = .ok (.iconst 0, 1) := by decide +kernel
theorem dX4_inCups_3 : decode cX4_inCups 3 = .ok (.istore_n 2, 1) := by decide +kernel
theorem dX4_inCups_4 : decode cX4_inCups 4 = .ok (.iload_n 2, 1) := by decide +kernel
theorem dX4_inCups_5 : decode cX4_inCups 5 = .ok (.aload_n 0, 1) := by decide +kernel
theorem dX4_inCups_6 : decode cX4_inCups 6 = .ok (.getfield 12, 3) := by decide +kernel
theorem dX4_inCups_9 : decode cX4_inCups 9 = .ok (.invokeinterface 39 1, 5) := by decide +kernel
theorem dX4_inCups_14 : decode cX4_inCups 14 = .ok (.if_icmp .ge 28, 3) := by decide +kernel
theorem dX4_inCups_17 : decode cX4_inCups 17 = .ok (.iload_n 1, 1) := by decide +kernel
theorem dX4_inCups_18 : decode cX4_inCups 18 = .ok (.aload_n 0, 1) := by decide +kernel
theorem dX4_inCups_19 : decode cX4_inCups 19 = .ok (.getfield 12, 3) := by decide +kernel
theorem dX4_inCups_22 : decode cX4_inCups 22 = .ok (.iload_n 2, 1) := by decide +kernel
theorem dX4_inCups_23 : decode cX4_inCups 23 = .ok (.invokeinterface 45 2, 5) := by decide +kernel
theorem dX4_inCups_28 : decode cX4_inCups 28 = .ok (.checkcast 49, 3) := by decide +kernel
theorem dX4_inCups_31 : decode cX4_inCups 31 = .ok (.getfield 69, 3) := by decide +kernel
theorem dX4_inCups_34 : decode cX4_inCups 34 = .ok (.iadd, 1) := by decide +kernel
theorem dX4_inCups_35 : decode cX4_inCups 35 = .ok (.istore_n 1, 1) := by decide +kernel
theorem dX4_inCups_36 : decode cX4_inCups 36 = .ok (.iinc 2 1, 3) := by decide +kernel
theorem dX4_inCups_39 : decode cX4_inCups 39 = .ok (.goto (-35), 3) := by decide +kernel
theorem dX4_inCups_42 : decode cX4_inCups 42 = .ok (.iload_n 1, 1) := by decide +kernel
theorem dX4_inCups_43 : decode cX4_inCups 43 = .ok (.ireturn, 1) := by decide +kernel
set_option maxRecDepth 20000 in
theorem ggX4_takeFire_X4_inCups : GoodIn wsX4_takeFire wsX4_inCups := goodIn_r _ [8, 2, 3, 9, 10, 11, 12, 13, 14, 15, 16, 17, 18, 19, 20, 21, 22, 23, 24, 25, 26, 27, 28, 29, 30, 31, 32, 40, 41, 42, 43, 44, 45, 46, 47, 48, 49, 50, 51, 52, 53, 54, 55] (by decide +kernel) (by decide +kernel)
set_option maxRecDepth 20000 in
theorem gX4_takeFire_X4_inCups : GoodIn wsX4_takeFire (wsV RX4 72 RX4 yX4_inCups wsX4_inCups) := goodIn_app (goodIn_of _ (by decide +kernel)) ggX4_takeFire_X4_inCups
set_option maxRecDepth 20000 in
theorem ggX4_takeFire_Jx4a65c_size_8abf5 : GoodIn wsX4_takeFire wsJx4a65c_size_8abf5 := goodIn_r _ [14, 15, 53, 54, 55] (by decide +kernel) (by decide +kernel)
set_option maxRecDepth 20000 in
theorem gX4_takeFire_Jx4a65c_size_8abf5_f39Jx4a65c : GoodIn wsX4_takeFire (va_wsF RX4 39 RJx4a65c ⟨"java/util/List", "size", "()I"⟩ yJx4a65c_size_8abf5 wsJx4a65c_size_8abf5) := goodIn_app (goodIn_of _ (by decide +kernel)) ggX4_takeFire_Jx4a65c_size_8abf5
set_option maxRecDepth 20000 in
theorem ggX4_takeFire_Jx4a65c_get_915e3 : GoodIn wsX4_takeFire wsJx4a65c_get_915e3 := goodIn_r _ [19, 15, 20, 21, 22, 23, 24, 25, 26, 27, 28, 29, 30, 13, 31, 32, 53, 54, 55] (by decide +kernel) (by decide +kernel)
set_option maxRecDepth 20000 in
theorem gX4_takeFire_Jx4a65c_get_915e3_f45Jx4a65c : GoodIn wsX4_takeFire (va_wsF RX4 45 RJx4a65c ⟨"java/util/List", "get", "(I)Ljava/lang/Object;"⟩ yJx4a65c_get_915e3 wsJx4a65c_get_915e3) := goodIn_app (goodIn_of _ (by decide +kernel)) ggX4_takeFire_Jx4a65c_get_915e3
set_option maxRecDepth 20000 in
theorem ggX4_takeFire_X1_clearCup : GoodIn wsX4_takeFire wsX1_clearCup := goodIn_r _ [37, 38, 39, 47, 48, 49, 50, 51, 52] (by decide +kernel) (by decide +kernel)
set_option maxRecDepth 20000 in
theorem gX4_takeFire_X1_clearCup : GoodIn wsX4_takeFire (wsV RX4 75 RX1 yX1_clearCup wsX1_clearCup) := goodIn_app (goodIn_of _ (by decide +kernel)) ggX4_takeFire_X1_clearCup
theorem dX4_takeFire_0 : decode cX4_takeFire 0 = .ok (.aload_n 0, 1) := by decide +kernel
theorem dX4_takeFire_1 : decode cX4_takeFire 1 = .ok (.invokevirtual 72, 3) := by decide +kernel
theorem dX4_takeFire_4 : decode cX4_takeFire 4 = .ok (.istore_n 1, 1) := by decide +kernel
theorem dX4_takeFire_5 : decode cX4_takeFire 5 = .ok (.aload_n 0, 1) := by decide +kernel
theorem dX4_takeFire_6 : decode cX4_takeFire 6 = .ok (.iconst 1, 1) := by decide +kernel
theorem dX4_takeFire_7 : decode cX4_takeFire 7 = .ok (.putfield 18, 3) := by decide +kernel
theorem dX4_takeFire_10 : decode cX4_takeFire 10 = .ok (.iconst 0, 1) := by decide +kernel
theorem dX4_takeFire_11 : decode cX4_takeFire 11 = .ok (.istore_n 2, 1) := by decide +kernel
theorem dX4_takeFire_12 : decode cX4_takeFire 12 = .ok (.iload_n 2, 1) := by decide +kernel
theorem dX4_takeFire_13 : decode cX4_takeFire 13 = .ok (.aload_n 0, 1) := by decide +kernel
theorem dX4_takeFire_14 : decode cX4_takeFire 14 = .ok (.getfield 12, 3) := by decide +kernel
theorem dX4_takeFire_17 : decode cX4_takeFire 17 = .ok (.invokeinterface 39 1, 5) := by decide +kernel
theorem dX4_takeFire_22 : decode cX4_takeFire 22 = .ok (.if_icmp .ge 25, 3) := by decide +kernel
theorem dX4_takeFire_25 : decode cX4_takeFire 25 = .ok (.aload_n 0, 1) := by decide +kernel
theorem dX4_takeFire_26 : decode cX4_takeFire 26 = .ok (.getfield 12, 3) := by decide +kernel
theorem dX4_takeFire_29 : decode cX4_takeFire 29 = .ok (.iload_n 2, 1) := by decide +kernel
theorem dX4_takeFire_30 : decode cX4_takeFire 30 = .ok (.invokeinterface 45 2, 5) := by decide +kernel
theorem dX4_takeFire_35 : decode cX4_takeFire 35 = .ok (.checkcast 49, 3) := by decide +kernel
theorem dX4_takeFire_38 : decode cX4_takeFire 38 = .ok (.invokevirtual 75, 3) := by decide +kernel
theorem dX4_takeFire_41 : decode cX4_takeFire 41 = .ok (.iinc 2 1, 3) := by decide +kernel
theorem dX4_takeFire_44 : decode cX4_takeFire 44 = .ok (.goto (-32), 3) := by decide +kernel
theorem dX4_takeFire_47 : decode cX4_takeFire 47 = .ok (.iload_n 1, 1) := by decide +kernel
theorem dX4_takeFire_48 : decode cX4_takeFire 48 = .ok (.ireturn, 1) := by decide +kernel
theorem dX5_init_0 : decode cX5_init 0 = .ok (.aload_n 0, 1) := by decide +kernel
theorem dX5_init_1 : decode cX5_init 1 = .ok (.invokespecial 1, 3) := by decide +kernel
theorem dX5_init_4 : decode cX5_init 4 = .ok (.aload_n 0, 1) := by decide +kernel
theorem dX5_init_5 : decode cX5_init 5 = .ok (.iconst 0, 1) := by decide +kernel
theorem dX5_init_6 : decode cX5_init 6 = .ok (.putfield 7, 3) := by decide +kernel
theorem dX5_init_9 : decode cX5_init 9 = .ok (.aload_n 0, 1) := by decide +kernel
theorem dX5_init_10 : decode cX5_init 10 = .ok (.iconst 0, 1) := by decide +kernel
theorem dX5_init_11 : decode cX5_init 11 = .ok (.putfield 13, 3) := by decide +kernel
theorem dX5_init_14 : decode cX5_init 14 = .ok (.aload_n 0, 1) := by decide +kernel
theorem dX5_init_15 : decode cX5_init 15 = .ok (.iconst 0, 1) := by decide +kernel
theorem dX5_init_16 : decode cX5_init 16 = .ok (.putfield 17, 3) := by decide +kernel
theorem dX5_init_19 : decode cX5_init 19 = .ok (.aload_n 0, 1) := by decide +kernel
theorem dX5_init_20 : decode cX5_init 20 = .ok (.iconst 0, 1) := by decide +kernel
theorem dX5_init_21 : decode cX5_init 21 = .ok (.putfield 20, 3) := by decide +kernel
theorem dX5_init_24 : decode cX5_init 24 = .ok (.aload_n 0, 1) := by decide +kernel
theorem dX5_init_25 : decode cX5_init 25 = .ok (.aconst_null, 1) := by decide +kernel
theorem dX5_init_26 : decode cX5_init 26 = .ok (.putfield 23, 3) := by decide +kernel
theorem dX5_init_29 : decode cX5_init 29 = .ok (.aload_n 0, 1) := by decide +kernel
theorem dX5_init_30 : decode cX5_init 30 = .ok (.iload_n 1, 1) := by decide +kernel
theorem dX5_init_31 : decode cX5_init 31 = .ok (.putfield 27, 3) := by decide +kernel
theorem dX5_init_34 : decode cX5_init 34 = .ok (.return_, 1) := by decide +kernel
theorem dX5_letFor_0 : decode cX5_letFor 0 = .ok (.aload_n 0, 1) := by decide +kernel
theorem dX5_letFor_1 : decode cX5_letFor 1 = .ok (.iconst 1, 1) := by decide +kernel
theorem dX5_letFor_2 : decode cX5_letFor 2 = .ok (.putfield 7, 3) := by decide +kernel
theorem dX5_letFor_5 : decode cX5_letFor 5 = .ok (.aload_n 0, 1) := by decide +kernel
theorem dX5_letFor_6 : decode cX5_letFor 6 = .ok (.iload_n 1, 1) := by decide +kernel
theorem dX5_letFor_7 : decode cX5_letFor 7 = .ok (.putfield 13, 3) := by decide +kernel
theorem dX5_letFor_10 : decode cX5_letFor 10 = .ok (.aload_n 0, 1) := by decide +kernel
theorem dX5_letFor_11 : decode cX5_letFor 11 = .ok (.iconst 0, 1) := by decide +kernel
theorem dX5_letFor_12 : decode cX5_letFor 12 = .ok (.putfield 17, 3) := by decide +kernel
theorem dX5_letFor_15 : decode cX5_letFor 15 = .ok (.aload_n 0, 1) := by decide +kernel
theorem dX5_letFor_16 : decode cX5_letFor 16 = .ok (.iconst 0, 1) := by decide +kernel
theorem dX5_letFor_17 : decode cX5_letFor 17 = .ok (.putfield 20, 3) := by decide +kernel
theorem dX5_letFor_20 : decode cX5_letFor 20 = .ok (.return_, 1) := by decide +kernel
theorem dX5_stillDue_0 : decode cX5_stillDue 0 = .ok (.aload_n 0, 1) := by decide +kernel
theorem dX5_stillDue_1 : decode cX5_stillDue 1 = .ok (.getfield 7, 3) := by decide +kernel
theorem dX5_stillDue_4 : decode cX5_stillDue 4 = .ok (.ifCond .eq 23, 3) := by decide +kernel
theorem dX5_stillDue_7 : decode cX5_stillDue 7 = .ok (.aload_n 0, 1) := by decide +kernel
theorem dX5_stillDue_8 : decode cX5_stillDue 8 = .ok (.getfield 17, 3) := by decide +kernel
theorem dX5_stillDue_11 : decode cX5_stillDue 11 = .ok (.aload_n 0, 1) := by decide +kernel
theorem dX5_stillDue_12 : decode cX5_stillDue 12 = .ok (.getfield 13, 3) := by decide +kernel
theorem dX5_stillDue_15 : decode cX5_stillDue 15 = .ok (.imul, 1) := by decide +kernel
theorem dX5_stillDue_16 : decode cX5_stillDue 16 = .ok (.bipush 100, 2) := by decide +kernel
theorem dX5_stillDue_18 : decode cX5_stillDue 18 = .ok (.idiv, 1) := by decide +kernel
theorem dX5_stillDue_19 : decode cX5_stillDue 19 = .ok (.aload_n 0, 1) := by decide +kernel
theorem dX5_stillDue_20 : decode cX5_stillDue 20 = .ok (.getfield 20, 3) := by decide +kernel
theorem dX5_stillDue_23 : decode cX5_stillDue 23 = .ok (.isub, 1) := by decide +kernel
theorem dX5_stillDue_24 : decode cX5_stillDue 24 = .ok (.goto 4, 3) := by decide +kernel
theorem dX5_stillDue_27 : decode cX5_stillDue 27 = .ok (.iconst 0, 1) := by decide +kernel
theorem dX5_stillDue_28 : decode cX5_stillDue 28 = .ok (.ireturn, 1) := by decide +kernel
set_option maxRecDepth 20000 in
theorem ggX5_openBarrel_X0_isFull : GoodIn wsX5_openBarrel wsX0_isFull := goodIn_r _ [6, 7, 8, 9, 10, 5, 11, 12, 13, 20, 21, 22, 23, 24, 25] (by decide +kernel) (by decide +kernel)
set_option maxRecDepth 20000 in
theorem gX5_openBarrel_X0_isFull : GoodIn wsX5_openBarrel (wsV RX5 30 RX0 yX0_isFull wsX0_isFull) := goodIn_app (goodIn_of _ (by decide +kernel)) ggX5_openBarrel_X0_isFull
theorem dX5_openBarrel_0 : decode cX5_openBarrel 0 = .ok (.aload_n 0, 1) := by decide +kernel
theorem dX5_openBarrel_1 : decode cX5_openBarrel 1 = .ok (.getfield 23, 3) := by decide +kernel
theorem dX5_openBarrel_4 : decode cX5_openBarrel 4 = .ok (.ifnull 13, 3) := by decide +kernel
theorem dX5_openBarrel_7 : decode cX5_openBarrel 7 = .ok (.aload_n 0, 1) := by decide +kernel
theorem dX5_openBarrel_8 : decode cX5_openBarrel 8 = .ok (.getfield 23, 3) := by decide +kernel
theorem dX5_openBarrel_11 : decode cX5_openBarrel 11 = .ok (.invokevirtual 30, 3) := by decide +kernel
theorem dX5_openBarrel_14 : decode cX5_openBarrel 14 = .ok (.ifCond .eq 7, 3) := by decide +kernel
theorem dX5_openBarrel_17 : decode cX5_openBarrel 17 = .ok (.aconst_null, 1) := by decide +kernel
theorem dX5_openBarrel_18 : decode cX5_openBarrel 18 = .ok (.goto 7, 3) := by decide +kernel
theorem dX5_openBarrel_21 : decode cX5_openBarrel 21 = .ok (.aload_n 0, 1) := by decide +kernel
theorem dX5_openBarrel_22 : decode cX5_openBarrel 22 = .ok (.getfield 23, 3) := by decide +kernel
theorem dX5_openBarrel_25 : decode cX5_openBarrel 25 = .ok (.areturn, 1) := by decide +kernel
set_option maxRecDepth 20000 in
theorem ggX6_init_Jx4a65c_init_da8c8 : GoodIn wsX6_init wsJx4a65c_init_da8c8 := goodIn_r _ [31, 32, 33, 34, 35, 36, 37, 38, 39, 40, 41, 42, 43, 2, 3, 103, 104, 105] (by decide +kernel) (by decide +kernel)
set_option maxRecDepth 20000 in
theorem gX6_init_Jx4a65c_init_da8c8 : GoodIn wsX6_init (wsJx4a65c_init_da8c8) := ggX6_init_Jx4a65c_init_da8c8
set_option maxRecDepth 20000 in
theorem ggX6_init_X3_init : GoodIn wsX6_init wsX3_init := goodIn_r _ [45, 46, 2, 3, 47, 48, 49, 106, 107, 108] (by decide +kernel) (by decide +kernel)
set_option maxRecDepth 20000 in
theorem gX6_init_X3_init_n34 : GoodIn wsX6_init (wsX3_init) := ggX6_init_X3_init
set_option maxRecDepth 20000 in
theorem ggX6_init_X2_init : GoodIn wsX6_init wsX2_init := goodIn_r _ [51, 52, 2, 3, 53, 54, 55, 56, 57, 58, 59, 60, 61, 62, 63, 64, 65, 66, 67, 15, 16, 68, 69, 70, 71, 72, 73, 74, 75, 76, 77, 78, 79, 80, 44, 45, 46, 47, 48, 49, 109, 110, 111, 112, 113, 114, 115, 116, 117, 118, 119, 120, 127, 128, 129, 130, 131, 132, 106, 107, 108] (by decide +kernel) (by decide +kernel)
set_option maxRecDepth 20000 in
theorem gX6_init_X2_init_n41 : GoodIn wsX6_init (wsX2_init) := ggX6_init_X2_init
set_option maxRecDepth 20000 in
theorem ggX6_init_X5_init : GoodIn wsX6_init wsX5_init := goodIn_r _ [83, 84, 2, 3, 85, 86, 87, 88, 89, 90, 121, 122, 123, 124, 125, 126] (by decide +kernel) (by decide +kernel)
set_option maxRecDepth 20000 in
theorem gX6_init_X5_init : GoodIn wsX6_init (wsX5_init) := ggX6_init_X5_init
theorem dX6_init_0 : decode cX6_init 0 = .ok (.aload_n 0, 1) := by decide +kernel
theorem dX6_init_1 : decode cX6_init 1 = .ok (.invokespecial 3, 3) := by decide +kernel
theorem dX6_init_4 : decode cX6_init 4 = .ok (.aload_n 0, 1) := by decide +kernel
theorem dX6_init_5 : decode cX6_init 5 = .ok (.sipush 3650, 3) := by decide +kernel
theorem dX6_init_8 : decode cX6_init 8 = .ok (.newarray .byte, 2) := by decide +kernel
theorem dX6_init_10 : decode cX6_init 10 = .ok (.putfield 9, 3) := by decide +kernel
theorem dX6_init_13 : decode cX6_init 13 = .ok (.aload_n 0, 1) := by decide +kernel
theorem dX6_init_14 : decode cX6_init 14 = .ok (.sipush 3650, 3) := by decide +kernel
theorem dX6_init_17 : decode cX6_init 17 = .ok (.newarray .byte, 2) := by decide +kernel
theorem dX6_init_19 : decode cX6_init 19 = .ok (.putfield 13, 3) := by decide +kernel
theorem dX6_init_22 : decode cX6_init 22 = .ok (.aload_n 0, 1) := by decide +kernel
theorem dX6_init_23 : decode cX6_init 23 = .ok (.bipush 6, 2) := by decide +kernel
theorem dX6_init_25 : decode cX6_init 25 = .ok (.anewarray 16, 3) := by decide +kernel
theorem dX6_init_28 : decode cX6_init 28 = .ok (.putfield 18, 3) := by decide +kernel
theorem dX6_init_31 : decode cX6_init 31 = .ok (.aload_n 0, 1) := by decide +kernel
theorem dX6_init_32 : decode cX6_init 32 = .ok (.new 22, 3) := by decide +kernel
theorem dX6_init_35 : decode cX6_init 35 = .ok (.dup, 1) := by decide +kernel
theorem dX6_init_36 : decode cX6_init 36 = .ok (.invokespecial 24, 3) := by decide +kernel
theorem dX6_init_39 : decode cX6_init 39 = .ok (.putfield 25, 3) := by decide +kernel
theorem dX6_init_42 : decode cX6_init 42 = .ok (.aload_n 0, 1) := by decide +kernel
theorem dX6_init_43 : decode cX6_init 43 = .ok (.new 22, 3) := by decide +kernel
theorem dX6_init_46 : decode cX6_init 46 = .ok (.dup, 1) := by decide +kernel
theorem dX6_init_47 : decode cX6_init 47 = .ok (.invokespecial 24, 3) := by decide +kernel
theorem dX6_init_50 : decode cX6_init 50 = .ok (.putfield 29, 3) := by decide +kernel
theorem dX6_init_53 : decode cX6_init 53 = .ok (.aload_n 0, 1) := by decide +kernel
theorem dX6_init_54 : decode cX6_init 54 = .ok (.new 32, 3) := by decide +kernel
theorem dX6_init_57 : decode cX6_init 57 = .ok (.dup, 1) := by decide +kernel
theorem dX6_init_58 : decode cX6_init 58 = .ok (.invokespecial 34, 3) := by decide +kernel
theorem dX6_init_61 : decode cX6_init 61 = .ok (.putfield 35, 3) := by decide +kernel
theorem dX6_init_64 : decode cX6_init 64 = .ok (.aload_n 0, 1) := by decide +kernel
theorem dX6_init_65 : decode cX6_init 65 = .ok (.new 39, 3) := by decide +kernel
theorem dX6_init_68 : decode cX6_init 68 = .ok (.dup, 1) := by decide +kernel
theorem dX6_init_69 : decode cX6_init 69 = .ok (.invokespecial 41, 3) := by decide +kernel
theorem dX6_init_72 : decode cX6_init 72 = .ok (.putfield 42, 3) := by decide +kernel
theorem dX6_init_75 : decode cX6_init 75 = .ok (.aload_n 0, 1) := by decide +kernel
theorem dX6_init_76 : decode cX6_init 76 = .ok (.iconst 0, 1) := by decide +kernel
theorem dX6_init_77 : decode cX6_init 77 = .ok (.putfield 46, 3) := by decide +kernel
theorem dX6_init_80 : decode cX6_init 80 = .ok (.aload_n 0, 1) := by decide +kernel
theorem dX6_init_81 : decode cX6_init 81 = .ok (.iconst 0, 1) := by decide +kernel
theorem dX6_init_82 : decode cX6_init 82 = .ok (.putfield 50, 3) := by decide +kernel
theorem dX6_init_85 : decode cX6_init 85 = .ok (.aload_n 0, 1) := by decide +kernel
theorem dX6_init_86 : decode cX6_init 86 = .ok (.iconst 0, 1) := by decide +kernel
theorem dX6_init_87 : decode cX6_init 87 = .ok (.putfield 53, 3) := by decide +kernel
theorem dX6_init_90 : decode cX6_init 90 = .ok (.aload_n 0, 1) := by decide +kernel
theorem dX6_init_91 : decode cX6_init 91 = .ok (.iconst 0, 1) := by decide +kernel
theorem dX6_init_92 : decode cX6_init 92 = .ok (.putfield 56, 3) := by decide +kernel
theorem dX6_init_95 : decode cX6_init 95 = .ok (.aload_n 0, 1) := by decide +kernel
theorem dX6_init_96 : decode cX6_init 96 = .ok (.iconst 0, 1) := by decide +kernel
theorem dX6_init_97 : decode cX6_init 97 = .ok (.putfield 59, 3) := by decide +kernel
theorem dX6_init_100 : decode cX6_init 100 = .ok (.iconst 0, 1) := by decide +kernel
theorem dX6_init_101 : decode cX6_init 101 = .ok (.istore_n 1, 1) := by decide +kernel
theorem dX6_init_102 : decode cX6_init 102 = .ok (.iload_n 1, 1) := by decide +kernel
theorem dX6_init_103 : decode cX6_init 103 = .ok (.sipush 3650, 3) := by decide +kernel
theorem dX6_init_106 : decode cX6_init 106 = .ok (.if_icmp .ge 16, 3) := by decide +kernel
theorem dX6_init_109 : decode cX6_init 109 = .ok (.aload_n 0, 1) := by decide +kernel
theorem dX6_init_110 : decode cX6_init 110 = .ok (.getfield 9, 3) := by decide +kernel
theorem dX6_init_113 : decode cX6_init 113 = .ok (.iload_n 1, 1) := by decide +kernel
theorem dX6_init_114 : decode cX6_init 114 = .ok (.iconst 5, 1) := by decide +kernel
theorem dX6_init_115 : decode cX6_init 115 = .ok (.bastore, 1) := by decide +kernel
theorem dX6_init_116 : decode cX6_init 116 = .ok (.iinc 1 1, 3) := by decide +kernel
theorem dX6_init_119 : decode cX6_init 119 = .ok (.goto (-17), 3) := by decide +kernel
theorem dX6_init_122 : decode cX6_init 122 = .ok (.iconst 0, 1) := by decide +kernel
theorem dX6_init_123 : decode cX6_init 123 = .ok (.istore_n 1, 1) := by decide +kernel
theorem dX6_init_124 : decode cX6_init 124 = .ok (.iload_n 1, 1) := by decide +kernel
theorem dX6_init_125 : decode cX6_init 125 = .ok (.bipush 6, 2) := by decide +kernel
theorem dX6_init_127 : decode cX6_init 127 = .ok (.if_icmp .ge 23, 3) := by decide +kernel
theorem dX6_init_130 : decode cX6_init 130 = .ok (.aload_n 0, 1) := by decide +kernel
theorem dX6_init_131 : decode cX6_init 131 = .ok (.getfield 18, 3) := by decide +kernel
theorem dX6_init_134 : decode cX6_init 134 = .ok (.iload_n 1, 1) := by decide +kernel
theorem dX6_init_135 : decode cX6_init 135 = .ok (.new 16, 3) := by decide +kernel
theorem dX6_init_138 : decode cX6_init 138 = .ok (.dup, 1) := by decide +kernel
theorem dX6_init_139 : decode cX6_init 139 = .ok (.iload_n 1, 1) := by decide +kernel
theorem dX6_init_140 : decode cX6_init 140 = .ok (.invokespecial 62, 3) := by decide +kernel
theorem dX6_init_143 : decode cX6_init 143 = .ok (.aastore, 1) := by decide +kernel
theorem dX6_init_144 : decode cX6_init 144 = .ok (.iinc 1 1, 3) := by decide +kernel
theorem dX6_init_147 : decode cX6_init 147 = .ok (.goto (-23), 3) := by decide +kernel
theorem dX6_init_150 : decode cX6_init 150 = .ok (.return_, 1) := by decide +kernel
set_option maxRecDepth 20000 in
theorem ggX6_tree_X6_woodAt : GoodIn wsX6_tree wsX6_woodAt := goodIn_r _ [9, 10, 108, 109, 110, 111, 112, 113, 114, 115, 116, 117, 118, 119] (by decide +kernel) (by decide +kernel)
set_option maxRecDepth 20000 in
theorem gX6_tree_X6_woodAt : GoodIn wsX6_tree (wsV RX6 65 RX6 yX6_woodAt wsX6_woodAt) := goodIn_app (goodIn_of _ (by decide +kernel)) ggX6_tree_X6_woodAt
set_option maxRecDepth 20000 in
theorem ggX6_tree_X6_isPlace : GoodIn wsX6_tree wsX6_isPlace := goodIn_r _ [13] (by decide +kernel) (by decide +kernel)
set_option maxRecDepth 20000 in
theorem gX6_tree_X6_isPlace : GoodIn wsX6_tree (va_wsS RX6 69 yX6_isPlace wsX6_isPlace) := goodIn_app (goodIn_of _ (by decide +kernel)) ggX6_tree_X6_isPlace
set_option maxRecDepth 20000 in
theorem ggX6_tree_X6_isGirth : GoodIn wsX6_tree wsX6_isGirth := goodIn_r _ [16] (by decide +kernel) (by decide +kernel)
set_option maxRecDepth 20000 in
theorem gX6_tree_X6_isGirth : GoodIn wsX6_tree (va_wsS RX6 73 yX6_isGirth wsX6_isGirth) := goodIn_app (goodIn_of _ (by decide +kernel)) ggX6_tree_X6_isGirth
set_option maxRecDepth 20000 in
theorem ggX6_tree_Jx4a65c_size_8abf5 : GoodIn wsX6_tree wsJx4a65c_size_8abf5 := goodIn_r _ [21, 22, 127, 128, 129] (by decide +kernel) (by decide +kernel)
set_option maxRecDepth 20000 in
theorem gX6_tree_Jx4a65c_size_8abf5_f76Jx4a65c : GoodIn wsX6_tree (va_wsF RX6 76 RJx4a65c ⟨"java/util/List", "size", "()I"⟩ yJx4a65c_size_8abf5 wsJx4a65c_size_8abf5) := goodIn_app (goodIn_of _ (by decide +kernel)) ggX6_tree_Jx4a65c_size_8abf5
set_option maxRecDepth 20000 in
theorem ggX6_tree_X6_facesBorneBy : GoodIn wsX6_tree wsX6_facesBorneBy := goodIn_r _ [25] (by decide +kernel) (by decide +kernel)
set_option maxRecDepth 20000 in
theorem gX6_tree_X6_facesBorneBy : GoodIn wsX6_tree (va_wsS RX6 84 yX6_facesBorneBy wsX6_facesBorneBy) := goodIn_app (goodIn_of _ (by decide +kernel)) ggX6_tree_X6_facesBorneBy
set_option maxRecDepth 20000 in
theorem ggX6_tree_X4_init : GoodIn wsX6_tree wsX4_init := goodIn_r _ [28, 29, 30, 31, 32, 33, 20, 34, 35, 36, 37, 38, 39, 40, 41, 42, 43, 44, 45, 46, 47, 48, 49, 50, 51, 52, 53, 54, 55, 127, 128, 129, 120, 121, 122, 123, 124, 125, 126] (by decide +kernel) (by decide +kernel)
set_option maxRecDepth 20000 in
theorem gX6_tree_X4_init : GoodIn wsX6_tree (wsX4_init) := ggX6_tree_X4_init
set_option maxRecDepth 20000 in
theorem ggX6_tree_Jx4a65c_add_9ea2d : GoodIn wsX6_tree wsJx4a65c_add_9ea2d := goodIn_r _ [59, 60, 61, 45, 22, 62, 63, 64, 20, 65, 66, 67, 68, 69, 70, 71, 72, 73, 44, 74, 75, 76, 77, 78, 79, 80, 81, 82, 83, 84, 85, 86, 87, 88, 89, 90, 91, 92, 93, 94, 95, 96, 97, 98, 99, 100, 101, 102, 103, 104, 105, 106, 107, 127, 128, 129] (by decide +kernel) (by decide +kernel)
set_option maxRecDepth 20000 in
theorem gX6_tree_Jx4a65c_add_9ea2d_f91Jx4a65c : GoodIn wsX6_tree (va_wsF RX6 91 RJx4a65c ⟨"java/util/List", "add", "(Ljava/lang/Object;)Z"⟩ yJx4a65c_add_9ea2d wsJx4a65c_add_9ea2d) := goodIn_app (goodIn_of _ (by decide +kernel)) ggX6_tree_Jx4a65c_add_9ea2d
theorem dX6_tree_0 : decode cX6_tree 0 = .ok (.aload_n 0, 1) := by decide +kernel
theorem dX6_tree_1 : decode cX6_tree 1 = .ok (.iload_n 1, 1) := by decide +kernel
theorem dX6_tree_2 : decode cX6_tree 2 = .ok (.invokevirtual 65, 3) := by decide +kernel
theorem dX6_tree_5 : decode cX6_tree 5 = .ok (.astore 4, 2) := by decide +kernel
theorem dX6_tree_7 : decode cX6_tree 7 = .ok (.aload 4, 2) := by decide +kernel
theorem dX6_tree_9 : decode cX6_tree 9 = .ok (.ifnull 31, 3) := by decide +kernel
theorem dX6_tree_12 : decode cX6_tree 12 = .ok (.iload_n 2, 1) := by decide +kernel
theorem dX6_tree_13 : decode cX6_tree 13 = .ok (.invokestatic 69, 3) := by decide +kernel
theorem dX6_tree_16 : decode cX6_tree 16 = .ok (.ifCond .eq 24, 3) := by decide +kernel
theorem dX6_tree_19 : decode cX6_tree 19 = .ok (.iload_n 3, 1) := by decide +kernel
theorem dX6_tree_20 : decode cX6_tree 20 = .ok (.invokestatic 73, 3) := by decide +kernel
theorem dX6_tree_23 : decode cX6_tree 23 = .ok (.ifCond .eq 17, 3) := by decide +kernel
theorem dX6_tree_26 : decode cX6_tree 26 = .ok (.aload_n 0, 1) := by decide +kernel
theorem dX6_tree_27 : decode cX6_tree 27 = .ok (.getfield 25, 3) := by decide +kernel
theorem dX6_tree_30 : decode cX6_tree 30 = .ok (.invokeinterface 76 1, 5) := by decide +kernel
theorem dX6_tree_35 : decode cX6_tree 35 = .ok (.bipush 60, 2) := by decide +kernel
theorem dX6_tree_37 : decode cX6_tree 37 = .ok (.if_icmp .lt 5, 3) := by decide +kernel
theorem dX6_tree_40 : decode cX6_tree 40 = .ok (.iconst (-1), 1) := by decide +kernel
theorem dX6_tree_41 : decode cX6_tree 41 = .ok (.ireturn, 1) := by decide +kernel
theorem dX6_tree_42 : decode cX6_tree 42 = .ok (.aload_n 0, 1) := by decide +kernel
theorem dX6_tree_43 : decode cX6_tree 43 = .ok (.getfield 25, 3) := by decide +kernel
theorem dX6_tree_46 : decode cX6_tree 46 = .ok (.new 82, 3) := by decide +kernel
theorem dX6_tree_49 : decode cX6_tree 49 = .ok (.dup, 1) := by decide +kernel
theorem dX6_tree_50 : decode cX6_tree 50 = .ok (.aload_n 0, 1) := by decide +kernel
theorem dX6_tree_51 : decode cX6_tree 51 = .ok (.getfield 25, 3) := by decide +kernel
theorem dX6_tree_54 : decode cX6_tree 54 = .ok (.invokeinterface 76 1, 5) := by decide +kernel
theorem dX6_tree_59 : decode cX6_tree 59 = .ok (.aload 4, 2) := by decide +kernel
theorem dX6_tree_61 : decode cX6_tree 61 = .ok (.iload_n 2, 1) := by decide +kernel
theorem dX6_tree_62 : decode cX6_tree 62 = .ok (.iload_n 3, 1) := by decide +kernel
theorem dX6_tree_63 : decode cX6_tree 63 = .ok (.invokestatic 84, 3) := by decide +kernel
theorem dX6_tree_66 : decode cX6_tree 66 = .ok (.invokespecial 88, 3) := by decide +kernel
theorem dX6_tree_69 : decode cX6_tree 69 = .ok (.invokeinterface 91 2, 5) := by decide +kernel
theorem dX6_tree_74 : decode cX6_tree 74 = .ok (.pop, 1) := by decide +kernel
theorem dX6_tree_75 : decode cX6_tree 75 = .ok (.aload_n 0, 1) := by decide +kernel
theorem dX6_tree_76 : decode cX6_tree 76 = .ok (.getfield 25, 3) := by decide +kernel
theorem dX6_tree_79 : decode cX6_tree 79 = .ok (.invokeinterface 76 1, 5) := by decide +kernel
theorem dX6_tree_84 : decode cX6_tree 84 = .ok (.iconst 1, 1) := by decide +kernel
theorem dX6_tree_85 : decode cX6_tree 85 = .ok (.isub, 1) := by decide +kernel
theorem dX6_tree_86 : decode cX6_tree 86 = .ok (.ireturn, 1) := by decide +kernel
set_option maxRecDepth 20000 in
theorem ggX6_bears_X6_isGirth : GoodIn wsX6_bears wsX6_isGirth := goodIn_r _ [4] (by decide +kernel) (by decide +kernel)
set_option maxRecDepth 20000 in
theorem gX6_bears_X6_isGirth : GoodIn wsX6_bears (va_wsS RX6 73 yX6_isGirth wsX6_isGirth) := goodIn_app (goodIn_of _ (by decide +kernel)) ggX6_bears_X6_isGirth
set_option maxRecDepth 20000 in
theorem ggX6_bears_X6_facesBorneBy : GoodIn wsX6_bears wsX6_facesBorneBy := goodIn_r _ [7] (by decide +kernel) (by decide +kernel)
set_option maxRecDepth 20000 in
theorem gX6_bears_X6_facesBorneBy : GoodIn wsX6_bears (va_wsS RX6 84 yX6_facesBorneBy wsX6_facesBorneBy) := goodIn_app (goodIn_of _ (by decide +kernel)) ggX6_bears_X6_facesBorneBy
theorem dX6_bears_0 : decode cX6_bears 0 = .ok (.iload_n 1, 1) := by decide +kernel
theorem dX6_bears_1 : decode cX6_bears 1 = .ok (.invokestatic 73, 3) := by decide +kernel
theorem dX6_bears_4 : decode cX6_bears 4 = .ok (.ifCond .eq 10, 3) := by decide +kernel
theorem dX6_bears_7 : decode cX6_bears 7 = .ok (.iload_n 1, 1) := by decide +kernel
theorem dX6_bears_8 : decode cX6_bears 8 = .ok (.invokestatic 84, 3) := by decide +kernel
theorem dX6_bears_11 : decode cX6_bears 11 = .ok (.goto 4, 3) := by decide +kernel
theorem dX6_bears_14 : decode cX6_bears 14 = .ok (.iconst (-1), 1) := by decide +kernel
theorem dX6_bears_15 : decode cX6_bears 15 = .ok (.ireturn, 1) := by decide +kernel
set_option maxRecDepth 20000 in
theorem ggX6_weather_X6_isWeather : GoodIn wsX6_weather wsX6_isWeather := goodIn_r _ [7] (by decide +kernel) (by decide +kernel)
set_option maxRecDepth 20000 in
theorem gX6_weather_X6_isWeather : GoodIn wsX6_weather (va_wsS RX6 95 yX6_isWeather wsX6_isWeather) := goodIn_app (goodIn_of _ (by decide +kernel)) ggX6_weather_X6_isWeather
theorem dX6_weather_0 : decode cX6_weather 0 = .ok (.iload_n 3, 1) := by decide +kernel
theorem dX6_weather_1 : decode cX6_weather 1 = .ok (.invokestatic 95, 3) := by decide +kernel
theorem dX6_weather_4 : decode cX6_weather 4 = .ok (.ifCond .eq 11, 3) := by decide +kernel
theorem dX6_weather_7 : decode cX6_weather 7 = .ok (.iload 4, 2) := by decide +kernel
theorem dX6_weather_9 : decode cX6_weather 9 = .ok (.invokestatic 95, 3) := by decide +kernel
theorem dX6_weather_12 : decode cX6_weather 12 = .ok (.ifCond .ne 5, 3) := by decide +kernel
theorem dX6_weather_15 : decode cX6_weather 15 = .ok (.iconst 0, 1) := by decide +kernel
theorem dX6_weather_16 : decode cX6_weather 16 = .ok (.ireturn, 1) := by decide +kernel
theorem dX6_weather_17 : decode cX6_weather 17 = .ok (.iload_n 1, 1) := by decide +kernel
theorem dX6_weather_18 : decode cX6_weather 18 = .ok (.aload_n 0, 1) := by decide +kernel
theorem dX6_weather_19 : decode cX6_weather 19 = .ok (.getfield 46, 3) := by decide +kernel
theorem dX6_weather_22 : decode cX6_weather 22 = .ok (.if_icmp .lt 15, 3) := by decide +kernel
theorem dX6_weather_25 : decode cX6_weather 25 = .ok (.iload_n 2, 1) := by decide +kernel
theorem dX6_weather_26 : decode cX6_weather 26 = .ok (.iload_n 1, 1) := by decide +kernel
theorem dX6_weather_27 : decode cX6_weather 27 = .ok (.if_icmp .lt 10, 3) := by decide +kernel
theorem dX6_weather_30 : decode cX6_weather 30 = .ok (.iload_n 2, 1) := by decide +kernel
theorem dX6_weather_31 : decode cX6_weather 31 = .ok (.sipush 3650, 3) := by decide +kernel
theorem dX6_weather_34 : decode cX6_weather 34 = .ok (.if_icmp .lt 5, 3) := by decide +kernel
theorem dX6_weather_37 : decode cX6_weather 37 = .ok (.iconst 0, 1) := by decide +kernel
theorem dX6_weather_38 : decode cX6_weather 38 = .ok (.ireturn, 1) := by decide +kernel
theorem dX6_weather_39 : decode cX6_weather 39 = .ok (.iload_n 1, 1) := by decide +kernel
theorem dX6_weather_40 : decode cX6_weather 40 = .ok (.istore 5, 2) := by decide +kernel
theorem dX6_weather_42 : decode cX6_weather 42 = .ok (.iload 5, 2) := by decide +kernel
theorem dX6_weather_44 : decode cX6_weather 44 = .ok (.iload_n 2, 1) := by decide +kernel
theorem dX6_weather_45 : decode cX6_weather 45 = .ok (.if_icmp .gt 28, 3) := by decide +kernel
