theorem dX6_weather_48 : decode cX6_weather 48 = .ok (.aload_n 0, 1) := by decide +kernel
theorem dX6_weather_49 : decode cX6_weather 49 = .ok (.getfield 9, 3) := by decide +kernel
theorem dX6_weather_52 : decode cX6_weather 52 = .ok (.iload 5, 2) := by decide +kernel
theorem dX6_weather_54 : decode cX6_weather 54 = .ok (.iload_n 3, 1) := by decide +kernel
theorem dX6_weather_55 : decode cX6_weather 55 = .ok (.i2b, 1) := by decide +kernel
theorem dX6_weather_56 : decode cX6_weather 56 = .ok (.bastore, 1) := by decide +kernel
theorem dX6_weather_57 : decode cX6_weather 57 = .ok (.aload_n 0, 1) := by decide +kernel
theorem dX6_weather_58 : decode cX6_weather 58 = .ok (.getfield 13, 3) := by decide +kernel
theorem dX6_weather_61 : decode cX6_weather 61 = .ok (.iload 5, 2) := by decide +kernel
theorem dX6_weather_63 : decode cX6_weather 63 = .ok (.iload 4, 2) := by decide +kernel
theorem dX6_weather_65 : decode cX6_weather 65 = .ok (.i2b, 1) := by decide +kernel
theorem dX6_weather_66 : decode cX6_weather 66 = .ok (.bastore, 1) := by decide +kernel
theorem dX6_weather_67 : decode cX6_weather 67 = .ok (.iinc 5 1, 3) := by decide +kernel
theorem dX6_weather_70 : decode cX6_weather 70 = .ok (.goto (-28), 3) := by decide +kernel
theorem dX6_weather_73 : decode cX6_weather 73 = .ok (.iconst 1, 1) := by decide +kernel
theorem dX6_weather_74 : decode cX6_weather 74 = .ok (.ireturn, 1) := by decide +kernel
set_option maxRecDepth 20000 in
theorem ggX6_cut_X6_treeAt : GoodIn wsX6_cut wsX6_treeAt := goodIn_r _ [7, 8, 9, 10, 11, 12, 13, 14, 15, 16, 17, 18, 19, 20, 21, 22, 23, 24, 25, 26, 27, 28, 29, 30, 31, 32, 145, 146, 147, 148, 149, 150, 151, 152, 153, 154, 155, 156, 157, 158, 159] (by decide +kernel) (by decide +kernel)
set_option maxRecDepth 20000 in
theorem gX6_cut_X6_treeAt : GoodIn wsX6_cut (wsV RX6 98 RX6 yX6_treeAt wsX6_treeAt) := goodIn_app (goodIn_of _ (by decide +kernel)) ggX6_cut_X6_treeAt
set_option maxRecDepth 20000 in
theorem ggX6_cut_X6_yearOf : GoodIn wsX6_cut wsX6_yearOf := goodIn_r _ [35] (by decide +kernel) (by decide +kernel)
set_option maxRecDepth 20000 in
theorem gX6_cut_X6_yearOf : GoodIn wsX6_cut (va_wsS RX6 106 yX6_yearOf wsX6_yearOf) := goodIn_app (goodIn_of _ (by decide +kernel)) ggX6_cut_X6_yearOf
set_option maxRecDepth 20000 in
theorem ggX6_cut_X4_restsIn : GoodIn wsX6_cut wsX4_restsIn := goodIn_r _ [40, 41, 138, 139, 140, 141, 142, 143, 144] (by decide +kernel) (by decide +kernel)
set_option maxRecDepth 20000 in
theorem gX6_cut_X4_restsIn : GoodIn wsX6_cut (wsV RX6 109 RX4 yX4_restsIn wsX4_restsIn) := goodIn_app (goodIn_of _ (by decide +kernel)) ggX6_cut_X4_restsIn
set_option maxRecDepth 20000 in
theorem ggX6_cut_X4_faceAt : GoodIn wsX6_cut wsX4_faceAt := goodIn_r _ [45, 46, 47, 48, 11, 12, 13, 14, 15, 49, 17, 18, 19, 20, 21, 22, 23, 24, 25, 26, 27, 28, 29, 30, 31, 32, 138, 139, 140, 141, 142, 143, 144, 157, 158, 159] (by decide +kernel) (by decide +kernel)
set_option maxRecDepth 20000 in
theorem gX6_cut_X4_faceAt : GoodIn wsX6_cut (wsV RX6 112 RX4 yX4_faceAt wsX4_faceAt) := goodIn_app (goodIn_of _ (by decide +kernel)) ggX6_cut_X4_faceAt
set_option maxRecDepth 20000 in
theorem ggX6_cut_X1_mayBeCutOn : GoodIn wsX6_cut wsX1_mayBeCutOn := goodIn_r _ [54, 55, 56, 160, 161, 162, 163, 164, 165] (by decide +kernel) (by decide +kernel)
set_option maxRecDepth 20000 in
theorem gX6_cut_X1_mayBeCutOn : GoodIn wsX6_cut (wsV RX6 116 RX1 yX1_mayBeCutOn wsX1_mayBeCutOn) := goodIn_app (goodIn_of _ (by decide +kernel)) ggX6_cut_X1_mayBeCutOn
set_option maxRecDepth 20000 in
theorem ggX6_cut_X4_streakOn : GoodIn wsX6_cut wsX4_streakOn := goodIn_r _ [60, 61, 62, 41, 34, 6, 35, 160, 161, 162, 163, 164, 165, 138, 139, 140, 141, 142, 143, 144] (by decide +kernel) (by decide +kernel)
set_option maxRecDepth 20000 in
theorem gX6_cut_X4_streakOn : GoodIn wsX6_cut (wsV RX6 121 RX4 yX4_streakOn wsX4_streakOn) := goodIn_app (goodIn_of _ (by decide +kernel)) ggX6_cut_X4_streakOn
set_option maxRecDepth 20000 in
theorem ggX6_cut_X4_mayOpen : GoodIn wsX6_cut wsX4_mayOpen := goodIn_r _ [66, 46, 67, 48, 11, 12, 13, 14, 15, 138, 139, 140, 141, 142, 143, 144, 157, 158, 159] (by decide +kernel) (by decide +kernel)
set_option maxRecDepth 20000 in
theorem gX6_cut_X4_mayOpen : GoodIn wsX6_cut (wsV RX6 125 RX4 yX4_mayOpen wsX4_mayOpen) := goodIn_app (goodIn_of _ (by decide +kernel)) ggX6_cut_X4_mayOpen
set_option maxRecDepth 20000 in
theorem ggX6_cut_X4_openFace : GoodIn wsX6_cut wsX4_openFace := goodIn_r _ [71, 72, 73, 53, 74, 46, 75, 76, 77, 78, 79, 55, 56, 80, 81, 82, 83, 84, 34, 6, 35, 85, 86, 87, 13, 88, 89, 90, 32, 15, 91, 92, 93, 94, 95, 96, 97, 98, 99, 100, 101, 102, 103, 104, 105, 106, 107, 108, 109, 110, 111, 112, 113, 114, 115, 116, 117, 118, 119, 120, 121, 122, 123, 124, 125, 126, 127, 128, 129, 130, 131, 132, 133, 134, 135, 136, 137, 160, 161, 162, 163, 164, 165, 138, 139, 140, 141, 142, 143, 144, 157, 158, 159] (by decide +kernel) (by decide +kernel)
set_option maxRecDepth 20000 in
theorem gX6_cut_X4_openFace : GoodIn wsX6_cut (wsV RX6 128 RX4 yX4_openFace wsX4_openFace) := goodIn_app (goodIn_of _ (by decide +kernel)) ggX6_cut_X4_openFace
theorem dX6_cut_0 : decode cX6_cut 0 = .ok (.aload_n 0, 1) := by decide +kernel
theorem dX6_cut_1 : decode cX6_cut 1 = .ok (.iload_n 1, 1) := by decide +kernel
theorem dX6_cut_2 : decode cX6_cut 2 = .ok (.invokevirtual 98, 3) := by decide +kernel
theorem dX6_cut_5 : decode cX6_cut 5 = .ok (.astore_n 3, 1) := by decide +kernel
theorem dX6_cut_6 : decode cX6_cut 6 = .ok (.aload_n 3, 1) := by decide +kernel
theorem dX6_cut_7 : decode cX6_cut 7 = .ok (.ifnull 24, 3) := by decide +kernel
theorem dX6_cut_10 : decode cX6_cut 10 = .ok (.aload_n 3, 1) := by decide +kernel
theorem dX6_cut_11 : decode cX6_cut 11 = .ok (.getfield 102, 3) := by decide +kernel
theorem dX6_cut_14 : decode cX6_cut 14 = .ok (.ifCond .ne 17, 3) := by decide +kernel
theorem dX6_cut_17 : decode cX6_cut 17 = .ok (.aload_n 3, 1) := by decide +kernel
theorem dX6_cut_18 : decode cX6_cut 18 = .ok (.aload_n 0, 1) := by decide +kernel
theorem dX6_cut_19 : decode cX6_cut 19 = .ok (.getfield 46, 3) := by decide +kernel
theorem dX6_cut_22 : decode cX6_cut 22 = .ok (.invokestatic 106, 3) := by decide +kernel
theorem dX6_cut_25 : decode cX6_cut 25 = .ok (.invokevirtual 109, 3) := by decide +kernel
theorem dX6_cut_28 : decode cX6_cut 28 = .ok (.ifCond .eq 5, 3) := by decide +kernel
theorem dX6_cut_31 : decode cX6_cut 31 = .ok (.iconst (-1), 1) := by decide +kernel
theorem dX6_cut_32 : decode cX6_cut 32 = .ok (.ireturn, 1) := by decide +kernel
theorem dX6_cut_33 : decode cX6_cut 33 = .ok (.aload_n 3, 1) := by decide +kernel
theorem dX6_cut_34 : decode cX6_cut 34 = .ok (.iload_n 2, 1) := by decide +kernel
theorem dX6_cut_35 : decode cX6_cut 35 = .ok (.invokevirtual 112, 3) := by decide +kernel
theorem dX6_cut_38 : decode cX6_cut 38 = .ok (.astore 4, 2) := by decide +kernel
theorem dX6_cut_40 : decode cX6_cut 40 = .ok (.aload 4, 2) := by decide +kernel
theorem dX6_cut_42 : decode cX6_cut 42 = .ok (.ifnull 30, 3) := by decide +kernel
theorem dX6_cut_45 : decode cX6_cut 45 = .ok (.aload 4, 2) := by decide +kernel
theorem dX6_cut_47 : decode cX6_cut 47 = .ok (.aload_n 0, 1) := by decide +kernel
theorem dX6_cut_48 : decode cX6_cut 48 = .ok (.getfield 46, 3) := by decide +kernel
theorem dX6_cut_51 : decode cX6_cut 51 = .ok (.invokevirtual 116, 3) := by decide +kernel
theorem dX6_cut_54 : decode cX6_cut 54 = .ok (.ifCond .eq 16, 3) := by decide +kernel
theorem dX6_cut_57 : decode cX6_cut 57 = .ok (.aload_n 3, 1) := by decide +kernel
theorem dX6_cut_58 : decode cX6_cut 58 = .ok (.aload 4, 2) := by decide +kernel
theorem dX6_cut_60 : decode cX6_cut 60 = .ok (.aload_n 0, 1) := by decide +kernel
theorem dX6_cut_61 : decode cX6_cut 61 = .ok (.getfield 46, 3) := by decide +kernel
theorem dX6_cut_64 : decode cX6_cut 64 = .ok (.invokevirtual 121, 3) := by decide +kernel
theorem dX6_cut_67 : decode cX6_cut 67 = .ok (.goto 4, 3) := by decide +kernel
theorem dX6_cut_70 : decode cX6_cut 70 = .ok (.iconst (-1), 1) := by decide +kernel
theorem dX6_cut_71 : decode cX6_cut 71 = .ok (.ireturn, 1) := by decide +kernel
theorem dX6_cut_72 : decode cX6_cut 72 = .ok (.aload_n 3, 1) := by decide +kernel
theorem dX6_cut_73 : decode cX6_cut 73 = .ok (.iload_n 2, 1) := by decide +kernel
theorem dX6_cut_74 : decode cX6_cut 74 = .ok (.invokevirtual 125, 3) := by decide +kernel
theorem dX6_cut_77 : decode cX6_cut 77 = .ok (.ifCond .eq 22, 3) := by decide +kernel
theorem dX6_cut_80 : decode cX6_cut 80 = .ok (.aload_n 3, 1) := by decide +kernel
theorem dX6_cut_81 : decode cX6_cut 81 = .ok (.aload_n 3, 1) := by decide +kernel
theorem dX6_cut_82 : decode cX6_cut 82 = .ok (.aload_n 0, 1) := by decide +kernel
theorem dX6_cut_83 : decode cX6_cut 83 = .ok (.getfield 46, 3) := by decide +kernel
theorem dX6_cut_86 : decode cX6_cut 86 = .ok (.invokevirtual 128, 3) := by decide +kernel
theorem dX6_cut_89 : decode cX6_cut 89 = .ok (.aload_n 0, 1) := by decide +kernel
theorem dX6_cut_90 : decode cX6_cut 90 = .ok (.getfield 46, 3) := by decide +kernel
theorem dX6_cut_93 : decode cX6_cut 93 = .ok (.invokevirtual 121, 3) := by decide +kernel
theorem dX6_cut_96 : decode cX6_cut 96 = .ok (.goto 4, 3) := by decide +kernel
theorem dX6_cut_99 : decode cX6_cut 99 = .ok (.iconst (-1), 1) := by decide +kernel
theorem dX6_cut_100 : decode cX6_cut 100 = .ok (.ireturn, 1) := by decide +kernel
set_option maxRecDepth 20000 in
theorem ggX6_rests_X6_treeAt : GoodIn wsX6_rests wsX6_treeAt := goodIn_r _ [6, 7, 8, 9, 10, 11, 12, 13, 14, 15, 16, 17, 18, 19, 20, 21, 22, 23, 24, 25, 26, 27, 28, 29, 30, 31, 41, 42, 43, 44, 45, 46, 47, 48, 49, 50, 51, 52, 53, 54, 55] (by decide +kernel) (by decide +kernel)
set_option maxRecDepth 20000 in
theorem gX6_rests_X6_treeAt : GoodIn wsX6_rests (wsV RX6 98 RX6 yX6_treeAt wsX6_treeAt) := goodIn_app (goodIn_of _ (by decide +kernel)) ggX6_rests_X6_treeAt
set_option maxRecDepth 20000 in
theorem ggX6_rests_X6_yearOf : GoodIn wsX6_rests wsX6_yearOf := goodIn_r _ [34] (by decide +kernel) (by decide +kernel)
set_option maxRecDepth 20000 in
theorem gX6_rests_X6_yearOf : GoodIn wsX6_rests (va_wsS RX6 106 yX6_yearOf wsX6_yearOf) := goodIn_app (goodIn_of _ (by decide +kernel)) ggX6_rests_X6_yearOf
set_option maxRecDepth 20000 in
theorem ggX6_rests_X4_restsIn : GoodIn wsX6_rests wsX4_restsIn := goodIn_r _ [39, 40, 56, 57, 58, 59, 60, 61, 62] (by decide +kernel) (by decide +kernel)
set_option maxRecDepth 20000 in
theorem gX6_rests_X4_restsIn : GoodIn wsX6_rests (wsV RX6 109 RX4 yX4_restsIn wsX4_restsIn) := goodIn_app (goodIn_of _ (by decide +kernel)) ggX6_rests_X4_restsIn
theorem dX6_rests_0 : decode cX6_rests 0 = .ok (.aload_n 0, 1) := by decide +kernel
theorem dX6_rests_1 : decode cX6_rests 1 = .ok (.iload_n 1, 1) := by decide +kernel
theorem dX6_rests_2 : decode cX6_rests 2 = .ok (.invokevirtual 98, 3) := by decide +kernel
theorem dX6_rests_5 : decode cX6_rests 5 = .ok (.astore_n 2, 1) := by decide +kernel
theorem dX6_rests_6 : decode cX6_rests 6 = .ok (.aload_n 2, 1) := by decide +kernel
theorem dX6_rests_7 : decode cX6_rests 7 = .ok (.ifnull 21, 3) := by decide +kernel
theorem dX6_rests_10 : decode cX6_rests 10 = .ok (.aload_n 2, 1) := by decide +kernel
theorem dX6_rests_11 : decode cX6_rests 11 = .ok (.aload_n 0, 1) := by decide +kernel
theorem dX6_rests_12 : decode cX6_rests 12 = .ok (.getfield 46, 3) := by decide +kernel
theorem dX6_rests_15 : decode cX6_rests 15 = .ok (.invokestatic 106, 3) := by decide +kernel
theorem dX6_rests_18 : decode cX6_rests 18 = .ok (.invokevirtual 109, 3) := by decide +kernel
theorem dX6_rests_21 : decode cX6_rests 21 = .ok (.ifCond .eq 7, 3) := by decide +kernel
theorem dX6_rests_24 : decode cX6_rests 24 = .ok (.iconst 1, 1) := by decide +kernel
theorem dX6_rests_25 : decode cX6_rests 25 = .ok (.goto 4, 3) := by decide +kernel
theorem dX6_rests_28 : decode cX6_rests 28 = .ok (.iconst 0, 1) := by decide +kernel
theorem dX6_rests_29 : decode cX6_rests 29 = .ok (.ireturn, 1) := by decide +kernel
set_option maxRecDepth 20000 in
theorem ggX6_go_X6_endDay : GoodIn wsX6_go wsX6_endDay := goodIn_r _ [10, 11, 12, 13, 14, 15, 1, 16, 17, 18, 19, 20, 21, 22, 23, 24, 25, 26, 27, 28, 29, 30, 31, 32, 33, 34, 35, 36, 37, 38, 39, 40, 41, 42, 43, 44, 45, 46, 47, 48, 49, 50, 51, 52, 53, 54, 55, 56, 57, 58, 59, 60, 61, 3, 4, 5, 62, 63, 64, 65, 9, 66, 67, 68, 69, 70, 71, 72, 73, 74, 75, 76, 77, 78, 79, 80, 81, 82, 83, 84, 85, 86, 87, 88, 89, 90, 91, 92, 93, 94, 95, 96, 97, 98, 99, 100, 101, 102, 103, 104, 105, 106, 107] (by decide +kernel) (by decide +kernel)
set_option maxRecDepth 20000 in
theorem gX6_go_X6_endDay : GoodIn wsX6_go (wsV RX6 137 RX6 yX6_endDay wsX6_endDay) := goodIn_app (goodIn_of _ (by decide +kernel)) ggX6_go_X6_endDay
theorem dX6_go_0 : decode cX6_go 0 = .ok (.iload_n 1, 1) := by decide +kernel
theorem dX6_go_1 : decode cX6_go 1 = .ok (.ifCond .lt 10, 3) := by decide +kernel
theorem dX6_go_4 : decode cX6_go 4 = .ok (.iload_n 1, 1) := by decide +kernel
theorem dX6_go_5 : decode cX6_go 5 = .ok (.sipush 400, 3) := by decide +kernel
theorem dX6_go_8 : decode cX6_go 8 = .ok (.if_icmp .le 5, 3) := by decide +kernel
theorem dX6_go_11 : decode cX6_go 11 = .ok (.iconst (-1), 1) := by decide +kernel
theorem dX6_go_12 : decode cX6_go 12 = .ok (.ireturn, 1) := by decide +kernel
theorem dX6_go_13 : decode cX6_go 13 = .ok (.aload_n 0, 1) := by decide +kernel
theorem dX6_go_14 : decode cX6_go 14 = .ok (.getfield 46, 3) := by decide +kernel
theorem dX6_go_17 : decode cX6_go 17 = .ok (.iload_n 1, 1) := by decide +kernel
theorem dX6_go_18 : decode cX6_go 18 = .ok (.iadd, 1) := by decide +kernel
theorem dX6_go_19 : decode cX6_go 19 = .ok (.sipush 3650, 3) := by decide +kernel
theorem dX6_go_22 : decode cX6_go 22 = .ok (.invokestatic 131, 3) := by decide +kernel
theorem dX6_go_25 : decode cX6_go 25 = .ok (.istore_n 2, 1) := by decide +kernel
theorem dX6_go_26 : decode cX6_go 26 = .ok (.aload_n 0, 1) := by decide +kernel
theorem dX6_go_27 : decode cX6_go 27 = .ok (.getfield 46, 3) := by decide +kernel
theorem dX6_go_30 : decode cX6_go 30 = .ok (.iload_n 2, 1) := by decide +kernel
theorem dX6_go_31 : decode cX6_go 31 = .ok (.if_icmp .ge 20, 3) := by decide +kernel
theorem dX6_go_34 : decode cX6_go 34 = .ok (.aload_n 0, 1) := by decide +kernel
theorem dX6_go_35 : decode cX6_go 35 = .ok (.invokevirtual 137, 3) := by decide +kernel
theorem dX6_go_38 : decode cX6_go 38 = .ok (.aload_n 0, 1) := by decide +kernel
theorem dX6_go_39 : decode cX6_go 39 = .ok (.dup, 1) := by decide +kernel
theorem dX6_go_40 : decode cX6_go 40 = .ok (.getfield 46, 3) := by decide +kernel
theorem dX6_go_43 : decode cX6_go 43 = .ok (.iconst 1, 1) := by decide +kernel
theorem dX6_go_44 : decode cX6_go 44 = .ok (.iadd, 1) := by decide +kernel
theorem dX6_go_45 : decode cX6_go 45 = .ok (.putfield 46, 3) := by decide +kernel
theorem dX6_go_48 : decode cX6_go 48 = .ok (.goto (-22), 3) := by decide +kernel
theorem dX6_go_51 : decode cX6_go 51 = .ok (.aload_n 0, 1) := by decide +kernel
theorem dX6_go_52 : decode cX6_go 52 = .ok (.getfield 46, 3) := by decide +kernel
theorem dX6_go_55 : decode cX6_go 55 = .ok (.ireturn, 1) := by decide +kernel
set_option maxRecDepth 20000 in
theorem ggX6_face_X6_treeAt : GoodIn wsX6_face wsX6_treeAt := goodIn_r _ [5, 6, 7, 8, 9, 10, 11, 12, 13, 14, 15, 16, 17, 18, 19, 20, 21, 22, 23, 24, 25, 26, 27, 28, 29, 30, 51, 52, 53, 54, 55, 56, 57, 58, 59, 60, 61, 62, 63, 64, 65] (by decide +kernel) (by decide +kernel)
set_option maxRecDepth 20000 in
theorem gX6_face_X6_treeAt : GoodIn wsX6_face (wsV RX6 98 RX6 yX6_treeAt wsX6_treeAt) := goodIn_app (goodIn_of _ (by decide +kernel)) ggX6_face_X6_treeAt
set_option maxRecDepth 20000 in
theorem ggX6_face_X4_faceAt : GoodIn wsX6_face wsX4_faceAt := goodIn_r _ [35, 36, 37, 38, 9, 10, 11, 12, 13, 39, 15, 16, 17, 18, 19, 20, 21, 22, 23, 24, 25, 26, 27, 28, 29, 30, 66, 67, 68, 69, 70, 71, 72, 63, 64, 65] (by decide +kernel) (by decide +kernel)
set_option maxRecDepth 20000 in
theorem gX6_face_X4_faceAt : GoodIn wsX6_face (wsV RX6 112 RX4 yX4_faceAt wsX4_faceAt) := goodIn_app (goodIn_of _ (by decide +kernel)) ggX6_face_X4_faceAt
set_option maxRecDepth 20000 in
theorem ggX6_face_X1_tell : GoodIn wsX6_face wsX1_tell := goodIn_r _ [44, 45, 46, 47, 48, 49, 50, 73, 74, 75, 76, 77, 78] (by decide +kernel) (by decide +kernel)
set_option maxRecDepth 20000 in
theorem gX6_face_X1_tell : GoodIn wsX6_face (wsV RX6 140 RX1 yX1_tell wsX1_tell) := goodIn_app (goodIn_of _ (by decide +kernel)) ggX6_face_X1_tell
theorem dX6_face_0 : decode cX6_face 0 = .ok (.aload_n 0, 1) := by decide +kernel
theorem dX6_face_1 : decode cX6_face 1 = .ok (.iload_n 1, 1) := by decide +kernel
theorem dX6_face_2 : decode cX6_face 2 = .ok (.invokevirtual 98, 3) := by decide +kernel
theorem dX6_face_5 : decode cX6_face 5 = .ok (.astore 4, 2) := by decide +kernel
theorem dX6_face_7 : decode cX6_face 7 = .ok (.aload 4, 2) := by decide +kernel
theorem dX6_face_9 : decode cX6_face 9 = .ok (.ifnonnull 7, 3) := by decide +kernel
theorem dX6_face_12 : decode cX6_face 12 = .ok (.aconst_null, 1) := by decide +kernel
theorem dX6_face_13 : decode cX6_face 13 = .ok (.goto 9, 3) := by decide +kernel
theorem dX6_face_16 : decode cX6_face 16 = .ok (.aload 4, 2) := by decide +kernel
theorem dX6_face_18 : decode cX6_face 18 = .ok (.iload_n 2, 1) := by decide +kernel
theorem dX6_face_19 : decode cX6_face 19 = .ok (.invokevirtual 112, 3) := by decide +kernel
theorem dX6_face_22 : decode cX6_face 22 = .ok (.astore 5, 2) := by decide +kernel
theorem dX6_face_24 : decode cX6_face 24 = .ok (.aload 5, 2) := by decide +kernel
theorem dX6_face_26 : decode cX6_face 26 = .ok (.ifnonnull 7, 3) := by decide +kernel
theorem dX6_face_29 : decode cX6_face 29 = .ok (.iconst (-1), 1) := by decide +kernel
theorem dX6_face_30 : decode cX6_face 30 = .ok (.goto 9, 3) := by decide +kernel
theorem dX6_face_33 : decode cX6_face 33 = .ok (.aload 5, 2) := by decide +kernel
theorem dX6_face_35 : decode cX6_face 35 = .ok (.iload_n 3, 1) := by decide +kernel
theorem dX6_face_36 : decode cX6_face 36 = .ok (.invokevirtual 140, 3) := by decide +kernel
theorem dX6_face_39 : decode cX6_face 39 = .ok (.ireturn, 1) := by decide +kernel
set_option maxRecDepth 20000 in
theorem ggX6_empty_X6_treeAt : GoodIn wsX6_empty wsX6_treeAt := goodIn_r _ [11, 12, 13, 14, 15, 16, 17, 18, 19, 20, 21, 22, 23, 24, 25, 26, 27, 28, 29, 30, 31, 32, 33, 34, 35, 36, 161, 162, 163, 164, 165, 166, 167, 168, 169, 170, 171, 172, 186, 187, 188] (by decide +kernel) (by decide +kernel)
set_option maxRecDepth 20000 in
theorem gX6_empty_X6_treeAt : GoodIn wsX6_empty (wsV RX6 98 RX6 yX6_treeAt wsX6_treeAt) := goodIn_app (goodIn_of _ (by decide +kernel)) ggX6_empty_X6_treeAt
set_option maxRecDepth 20000 in
theorem ggX6_empty_X4_inCups : GoodIn wsX6_empty wsX4_inCups := goodIn_r _ [41, 42, 43, 44, 45, 15, 16, 17, 18, 19, 46, 21, 22, 23, 24, 25, 26, 27, 28, 29, 30, 31, 32, 33, 34, 35, 36, 173, 174, 175, 176, 177, 178, 179, 189, 190, 191, 192, 193, 194, 186, 187, 188] (by decide +kernel) (by decide +kernel)
set_option maxRecDepth 20000 in
theorem gX6_empty_X4_inCups : GoodIn wsX6_empty (wsV RX6 143 RX4 yX4_inCups wsX4_inCups) := goodIn_app (goodIn_of _ (by decide +kernel)) ggX6_empty_X4_inCups
set_option maxRecDepth 20000 in
theorem ggX6_empty_Jx4a65c_size_8abf5 : GoodIn wsX6_empty wsJx4a65c_size_8abf5 := goodIn_r _ [18, 19, 186, 187, 188] (by decide +kernel) (by decide +kernel)
set_option maxRecDepth 20000 in
theorem gX6_empty_Jx4a65c_size_8abf5_f76Jx4a65c : GoodIn wsX6_empty (va_wsF RX6 76 RJx4a65c ⟨"java/util/List", "size", "()I"⟩ yJx4a65c_size_8abf5 wsJx4a65c_size_8abf5) := goodIn_app (goodIn_of _ (by decide +kernel)) ggX6_empty_Jx4a65c_size_8abf5
set_option maxRecDepth 20000 in
theorem ggX6_empty_X6_newBarrelsFor : GoodIn wsX6_empty wsX6_newBarrelsFor := goodIn_r _ [49, 50, 51, 52, 53, 54, 55, 56, 57, 58, 59, 60, 61, 62, 63, 64, 65, 66, 67, 68, 69, 70, 71, 180, 181, 182, 183, 184, 185, 195, 196, 197, 198, 199, 200] (by decide +kernel) (by decide +kernel)
set_option maxRecDepth 20000 in
theorem gX6_empty_X6_newBarrelsFor : GoodIn wsX6_empty (va_wsS RX6 150 yX6_newBarrelsFor wsX6_newBarrelsFor) := goodIn_app (goodIn_of _ (by decide +kernel)) ggX6_empty_X6_newBarrelsFor
set_option maxRecDepth 20000 in
theorem ggX6_empty_Jx4a65c_get_915e3 : GoodIn wsX6_empty wsJx4a65c_get_915e3 := goodIn_r _ [23, 19, 24, 25, 26, 27, 28, 29, 30, 31, 32, 33, 34, 17, 35, 36, 186, 187, 188] (by decide +kernel) (by decide +kernel)
set_option maxRecDepth 20000 in
theorem gX6_empty_Jx4a65c_get_915e3_f157Jx4a65c : GoodIn wsX6_empty (va_wsF RX6 157 RJx4a65c ⟨"java/util/List", "get", "(I)Ljava/lang/Object;"⟩ yJx4a65c_get_915e3 wsJx4a65c_get_915e3) := goodIn_app (goodIn_of _ (by decide +kernel)) ggX6_empty_Jx4a65c_get_915e3
set_option maxRecDepth 20000 in
theorem ggX6_empty_X6_pourCup : GoodIn wsX6_empty wsX6_pourCup := goodIn_r _ [75, 76, 77, 78, 79, 10, 80, 2, 81, 82, 59, 1, 83, 84, 50, 51, 52, 53, 54, 55, 56, 57, 58, 60, 61, 62, 63, 64, 65, 66, 67, 85, 86, 87, 88, 89, 90, 91, 92, 93, 94, 95, 96, 97, 17, 98, 99, 100, 36, 19, 101, 102, 103, 104, 105, 106, 107, 108, 109, 110, 111, 112, 113, 114, 115, 116, 117, 118, 119, 120, 121, 122, 123, 124, 125, 126, 127, 128, 129, 130, 131, 132, 133, 134, 135, 136, 137, 138, 139, 140, 141, 142, 143, 144, 145, 146, 147, 148, 149, 150, 151, 152, 153, 69, 70, 71, 154, 155, 156, 157, 158, 159, 160, 189, 190, 191, 192, 193, 194, 173, 174, 175, 176, 177, 178, 179, 195, 196, 197, 198, 199, 200, 161, 162, 163, 164, 165, 166, 167, 168, 169, 170, 171, 172, 180, 181, 182, 183, 184, 185, 186, 187, 188] (by decide +kernel) (by decide +kernel)
set_option maxRecDepth 20000 in
theorem gX6_empty_X6_pourCup : GoodIn wsX6_empty (wsV RX6 161 RX6 yX6_pourCup wsX6_pourCup) := goodIn_app (goodIn_of _ (by decide +kernel)) ggX6_empty_X6_pourCup
theorem dX6_empty_0 : decode cX6_empty 0 = .ok (.aload_n 0, 1) := by decide +kernel
theorem dX6_empty_1 : decode cX6_empty 1 = .ok (.iload_n 1, 1) := by decide +kernel
theorem dX6_empty_2 : decode cX6_empty 2 = .ok (.invokevirtual 98, 3) := by decide +kernel
theorem dX6_empty_5 : decode cX6_empty 5 = .ok (.astore_n 2, 1) := by decide +kernel
theorem dX6_empty_6 : decode cX6_empty 6 = .ok (.aload_n 2, 1) := by decide +kernel
theorem dX6_empty_7 : decode cX6_empty 7 = .ok (.ifnonnull 5, 3) := by decide +kernel
theorem dX6_empty_10 : decode cX6_empty 10 = .ok (.iconst (-1), 1) := by decide +kernel
theorem dX6_empty_11 : decode cX6_empty 11 = .ok (.ireturn, 1) := by decide +kernel
theorem dX6_empty_12 : decode cX6_empty 12 = .ok (.aload_n 2, 1) := by decide +kernel
theorem dX6_empty_13 : decode cX6_empty 13 = .ok (.invokevirtual 143, 3) := by decide +kernel
theorem dX6_empty_16 : decode cX6_empty 16 = .ok (.istore_n 3, 1) := by decide +kernel
theorem dX6_empty_17 : decode cX6_empty 17 = .ok (.aload_n 0, 1) := by decide +kernel
theorem dX6_empty_18 : decode cX6_empty 18 = .ok (.getfield 29, 3) := by decide +kernel
theorem dX6_empty_21 : decode cX6_empty 21 = .ok (.invokeinterface 76 1, 5) := by decide +kernel
theorem dX6_empty_26 : decode cX6_empty 26 = .ok (.aload_n 2, 1) := by decide +kernel
theorem dX6_empty_27 : decode cX6_empty 27 = .ok (.getfield 146, 3) := by decide +kernel
theorem dX6_empty_30 : decode cX6_empty 30 = .ok (.iload_n 3, 1) := by decide +kernel
theorem dX6_empty_31 : decode cX6_empty 31 = .ok (.invokestatic 150, 3) := by decide +kernel
theorem dX6_empty_34 : decode cX6_empty 34 = .ok (.iadd, 1) := by decide +kernel
theorem dX6_empty_35 : decode cX6_empty 35 = .ok (.sipush 200, 3) := by decide +kernel
theorem dX6_empty_38 : decode cX6_empty 38 = .ok (.if_icmp .le 5, 3) := by decide +kernel
theorem dX6_empty_41 : decode cX6_empty 41 = .ok (.iconst (-1), 1) := by decide +kernel
theorem dX6_empty_42 : decode cX6_empty 42 = .ok (.ireturn, 1) := by decide +kernel
theorem dX6_empty_43 : decode cX6_empty 43 = .ok (.iconst 0, 1) := by decide +kernel
theorem dX6_empty_44 : decode cX6_empty 44 = .ok (.istore 4, 2) := by decide +kernel
theorem dX6_empty_46 : decode cX6_empty 46 = .ok (.iload 4, 2) := by decide +kernel
theorem dX6_empty_48 : decode cX6_empty 48 = .ok (.aload_n 2, 1) := by decide +kernel
theorem dX6_empty_49 : decode cX6_empty 49 = .ok (.getfield 154, 3) := by decide +kernel
theorem dX6_empty_52 : decode cX6_empty 52 = .ok (.invokeinterface 76 1, 5) := by decide +kernel
theorem dX6_empty_57 : decode cX6_empty 57 = .ok (.if_icmp .ge 28, 3) := by decide +kernel
theorem dX6_empty_60 : decode cX6_empty 60 = .ok (.aload_n 0, 1) := by decide +kernel
theorem dX6_empty_61 : decode cX6_empty 61 = .ok (.aload_n 2, 1) := by decide +kernel
theorem dX6_empty_62 : decode cX6_empty 62 = .ok (.aload_n 2, 1) := by decide +kernel
theorem dX6_empty_63 : decode cX6_empty 63 = .ok (.getfield 154, 3) := by decide +kernel
theorem dX6_empty_66 : decode cX6_empty 66 = .ok (.iload 4, 2) := by decide +kernel
theorem dX6_empty_68 : decode cX6_empty 68 = .ok (.invokeinterface 157 2, 5) := by decide +kernel
theorem dX6_empty_73 : decode cX6_empty 73 = .ok (.checkcast 117, 3) := by decide +kernel
theorem dX6_empty_76 : decode cX6_empty 76 = .ok (.invokevirtual 161, 3) := by decide +kernel
theorem dX6_empty_79 : decode cX6_empty 79 = .ok (.iinc 4 1, 3) := by decide +kernel
theorem dX6_empty_82 : decode cX6_empty 82 = .ok (.goto (-36), 3) := by decide +kernel
theorem dX6_empty_85 : decode cX6_empty 85 = .ok (.aload_n 2, 1) := by decide +kernel
theorem dX6_empty_86 : decode cX6_empty 86 = .ok (.getfield 146, 3) := by decide +kernel
theorem dX6_empty_89 : decode cX6_empty 89 = .ok (.dup, 1) := by decide +kernel
theorem dX6_empty_90 : decode cX6_empty 90 = .ok (.getfield 165, 3) := by decide +kernel
theorem dX6_empty_93 : decode cX6_empty 93 = .ok (.iload_n 3, 1) := by decide +kernel
theorem dX6_empty_94 : decode cX6_empty 94 = .ok (.iadd, 1) := by decide +kernel
theorem dX6_empty_95 : decode cX6_empty 95 = .ok (.putfield 165, 3) := by decide +kernel
theorem dX6_empty_98 : decode cX6_empty 98 = .ok (.aload_n 0, 1) := by decide +kernel
theorem dX6_empty_99 : decode cX6_empty 99 = .ok (.dup, 1) := by decide +kernel
theorem dX6_empty_100 : decode cX6_empty 100 = .ok (.getfield 50, 3) := by decide +kernel
theorem dX6_empty_103 : decode cX6_empty 103 = .ok (.iload_n 3, 1) := by decide +kernel
theorem dX6_empty_104 : decode cX6_empty 104 = .ok (.iadd, 1) := by decide +kernel
theorem dX6_empty_105 : decode cX6_empty 105 = .ok (.putfield 50, 3) := by decide +kernel
theorem dX6_empty_108 : decode cX6_empty 108 = .ok (.iload_n 3, 1) := by decide +kernel
theorem dX6_empty_109 : decode cX6_empty 109 = .ok (.ireturn, 1) := by decide +kernel
set_option maxRecDepth 20000 in
theorem ggX6_barrel_X6_barrelAt : GoodIn wsX6_barrel wsX6_barrelAt := goodIn_r _ [5, 6, 7, 8, 9, 10, 11, 12, 13, 14, 15, 16, 17, 18, 19, 20, 21, 22, 23, 24, 25, 26, 27, 28, 29, 30, 54, 55, 56, 57, 58, 59, 60, 61, 62, 63, 64, 65, 66, 67, 68] (by decide +kernel) (by decide +kernel)
set_option maxRecDepth 20000 in
theorem gX6_barrel_X6_barrelAt : GoodIn wsX6_barrel (wsV RX6 166 RX6 yX6_barrelAt wsX6_barrelAt) := goodIn_app (goodIn_of _ (by decide +kernel)) ggX6_barrel_X6_barrelAt
set_option maxRecDepth 20000 in
theorem ggX6_barrel_X0_tell : GoodIn wsX6_barrel wsX0_tell := goodIn_r _ [35, 36, 37, 38, 39, 40, 41, 42, 43, 44, 34, 45, 46, 47, 48, 49, 50, 51, 52, 53, 69, 70, 71, 72, 73, 74, 75, 76, 77, 78, 79, 80] (by decide +kernel) (by decide +kernel)
set_option maxRecDepth 20000 in
theorem gX6_barrel_X0_tell : GoodIn wsX6_barrel (wsV RX6 170 RX0 yX0_tell wsX0_tell) := goodIn_app (goodIn_of _ (by decide +kernel)) ggX6_barrel_X0_tell
theorem dX6_barrel_0 : decode cX6_barrel 0 = .ok (.aload_n 0, 1) := by decide +kernel
theorem dX6_barrel_1 : decode cX6_barrel 1 = .ok (.iload_n 1, 1) := by decide +kernel
theorem dX6_barrel_2 : decode cX6_barrel 2 = .ok (.invokevirtual 166, 3) := by decide +kernel
theorem dX6_barrel_5 : decode cX6_barrel 5 = .ok (.astore_n 3, 1) := by decide +kernel
theorem dX6_barrel_6 : decode cX6_barrel 6 = .ok (.aload_n 3, 1) := by decide +kernel
theorem dX6_barrel_7 : decode cX6_barrel 7 = .ok (.ifnonnull 7, 3) := by decide +kernel
theorem dX6_barrel_10 : decode cX6_barrel 10 = .ok (.iconst (-1), 1) := by decide +kernel
theorem dX6_barrel_11 : decode cX6_barrel 11 = .ok (.goto 8, 3) := by decide +kernel
theorem dX6_barrel_14 : decode cX6_barrel 14 = .ok (.aload_n 3, 1) := by decide +kernel
theorem dX6_barrel_15 : decode cX6_barrel 15 = .ok (.iload_n 2, 1) := by decide +kernel
theorem dX6_barrel_16 : decode cX6_barrel 16 = .ok (.invokevirtual 170, 3) := by decide +kernel
theorem dX6_barrel_19 : decode cX6_barrel 19 = .ok (.ireturn, 1) := by decide +kernel
set_option maxRecDepth 20000 in
theorem ggX6_from_X6_barrelAt : GoodIn wsX6_from wsX6_barrelAt := goodIn_r _ [7, 8, 9, 10, 11, 12, 13, 14, 15, 16, 17, 18, 19, 20, 21, 22, 23, 24, 25, 26, 27, 28, 29, 30, 31, 32, 52, 53, 54, 55, 56, 57, 58, 59, 60, 61, 62, 63, 64, 65, 66] (by decide +kernel) (by decide +kernel)
set_option maxRecDepth 20000 in
theorem gX6_from_X6_barrelAt : GoodIn wsX6_from (wsV RX6 166 RX6 yX6_barrelAt wsX6_barrelAt) := goodIn_app (goodIn_of _ (by decide +kernel)) ggX6_from_X6_barrelAt
set_option maxRecDepth 20000 in
theorem ggX6_from_X6_treeAt : GoodIn wsX6_from wsX6_treeAt := goodIn_r _ [36, 37, 38, 10, 11, 12, 13, 14, 15, 16, 17, 18, 19, 20, 21, 22, 23, 24, 25, 26, 27, 28, 29, 30, 31, 32, 52, 53, 54, 55, 56, 57, 58, 59, 60, 61, 62, 63, 64, 65, 66] (by decide +kernel) (by decide +kernel)
set_option maxRecDepth 20000 in
theorem gX6_from_X6_treeAt : GoodIn wsX6_from (wsV RX6 98 RX6 yX6_treeAt wsX6_treeAt) := goodIn_app (goodIn_of _ (by decide +kernel)) ggX6_from_X6_treeAt
theorem dX6_from_0 : decode cX6_from 0 = .ok (.aload_n 0, 1) := by decide +kernel
theorem dX6_from_1 : decode cX6_from 1 = .ok (.iload_n 1, 1) := by decide +kernel
theorem dX6_from_2 : decode cX6_from 2 = .ok (.invokevirtual 166, 3) := by decide +kernel
theorem dX6_from_5 : decode cX6_from 5 = .ok (.astore_n 3, 1) := by decide +kernel
theorem dX6_from_6 : decode cX6_from 6 = .ok (.aload_n 0, 1) := by decide +kernel
theorem dX6_from_7 : decode cX6_from 7 = .ok (.iload_n 2, 1) := by decide +kernel
theorem dX6_from_8 : decode cX6_from 8 = .ok (.invokevirtual 98, 3) := by decide +kernel
theorem dX6_from_11 : decode cX6_from 11 = .ok (.astore 4, 2) := by decide +kernel
theorem dX6_from_13 : decode cX6_from 13 = .ok (.aload_n 3, 1) := by decide +kernel
theorem dX6_from_14 : decode cX6_from 14 = .ok (.ifnull 8, 3) := by decide +kernel
theorem dX6_from_17 : decode cX6_from 17 = .ok (.aload 4, 2) := by decide +kernel
theorem dX6_from_19 : decode cX6_from 19 = .ok (.ifnonnull 7, 3) := by decide +kernel
theorem dX6_from_22 : decode cX6_from 22 = .ok (.iconst (-1), 1) := by decide +kernel
theorem dX6_from_23 : decode cX6_from 23 = .ok (.goto 13, 3) := by decide +kernel
theorem dX6_from_26 : decode cX6_from 26 = .ok (.aload_n 3, 1) := by decide +kernel
theorem dX6_from_27 : decode cX6_from 27 = .ok (.getfield 173, 3) := by decide +kernel
theorem dX6_from_30 : decode cX6_from 30 = .ok (.aload 4, 2) := by decide +kernel
theorem dX6_from_32 : decode cX6_from 32 = .ok (.getfield 177, 3) := by decide +kernel
theorem dX6_from_35 : decode cX6_from 35 = .ok (.iaload, 1) := by decide +kernel
theorem dX6_from_36 : decode cX6_from 36 = .ok (.ireturn, 1) := by decide +kernel
set_option maxRecDepth 20000 in
theorem ggX6_still_X6_barrelAt : GoodIn wsX6_still wsX6_barrelAt := goodIn_r _ [8, 9, 10, 11, 12, 13, 14, 15, 16, 17, 18, 19, 20, 21, 22, 23, 24, 25, 26, 27, 28, 29, 30, 31, 32, 33, 65, 66, 67, 68, 69, 70, 71, 72, 73, 74, 75, 76, 77, 78, 79] (by decide +kernel) (by decide +kernel)
set_option maxRecDepth 20000 in
theorem gX6_still_X6_barrelAt : GoodIn wsX6_still (wsV RX6 166 RX6 yX6_barrelAt wsX6_barrelAt) := goodIn_app (goodIn_of _ (by decide +kernel)) ggX6_still_X6_barrelAt
set_option maxRecDepth 20000 in
theorem ggX6_still_X0_isGone : GoodIn wsX6_still wsX0_isGone := goodIn_r _ [38, 39, 40, 59, 60, 61, 62, 63, 64] (by decide +kernel) (by decide +kernel)
set_option maxRecDepth 20000 in
theorem gX6_still_X0_isGone : GoodIn wsX6_still (wsV RX6 180 RX0 yX0_isGone wsX0_isGone) := goodIn_app (goodIn_of _ (by decide +kernel)) ggX6_still_X0_isGone
set_option maxRecDepth 20000 in
theorem ggX6_still_X0_spiritOf : GoodIn wsX6_still wsX0_spiritOf := goodIn_r _ [44, 45, 59, 60, 61, 62, 63, 64] (by decide +kernel) (by decide +kernel)
set_option maxRecDepth 20000 in
theorem gX6_still_X0_spiritOf : GoodIn wsX6_still (wsV RX6 187 RX0 yX0_spiritOf wsX0_spiritOf) := goodIn_app (goodIn_of _ (by decide +kernel)) ggX6_still_X0_spiritOf
set_option maxRecDepth 20000 in
theorem ggX6_still_X0_rosinOf : GoodIn wsX6_still wsX0_rosinOf := goodIn_r _ [49, 45, 50, 51, 52, 53, 54, 55, 56, 37, 57, 58, 59, 60, 61, 62, 63, 64] (by decide +kernel) (by decide +kernel)
set_option maxRecDepth 20000 in
theorem gX6_still_X0_rosinOf : GoodIn wsX6_still (wsV RX6 190 RX0 yX0_rosinOf wsX0_rosinOf) := goodIn_app (goodIn_of _ (by decide +kernel)) ggX6_still_X0_rosinOf
theorem dX6_still_0 : decode cX6_still 0 = .ok (.aload_n 0, 1) := by decide +kernel
theorem dX6_still_1 : decode cX6_still 1 = .ok (.iload_n 1, 1) := by decide +kernel
theorem dX6_still_2 : decode cX6_still 2 = .ok (.invokevirtual 166, 3) := by decide +kernel
theorem dX6_still_5 : decode cX6_still 5 = .ok (.astore_n 2, 1) := by decide +kernel
theorem dX6_still_6 : decode cX6_still 6 = .ok (.aload_n 2, 1) := by decide +kernel
theorem dX6_still_7 : decode cX6_still 7 = .ok (.ifnull 10, 3) := by decide +kernel
theorem dX6_still_10 : decode cX6_still 10 = .ok (.aload_n 2, 1) := by decide +kernel
theorem dX6_still_11 : decode cX6_still 11 = .ok (.invokevirtual 180, 3) := by decide +kernel
theorem dX6_still_14 : decode cX6_still 14 = .ok (.ifCond .eq 5, 3) := by decide +kernel
theorem dX6_still_17 : decode cX6_still 17 = .ok (.iconst (-1), 1) := by decide +kernel
theorem dX6_still_18 : decode cX6_still 18 = .ok (.ireturn, 1) := by decide +kernel
theorem dX6_still_19 : decode cX6_still 19 = .ok (.aload_n 2, 1) := by decide +kernel
theorem dX6_still_20 : decode cX6_still 20 = .ok (.iconst 1, 1) := by decide +kernel
theorem dX6_still_21 : decode cX6_still 21 = .ok (.putfield 184, 3) := by decide +kernel
theorem dX6_still_24 : decode cX6_still 24 = .ok (.aload_n 0, 1) := by decide +kernel
theorem dX6_still_25 : decode cX6_still 25 = .ok (.dup, 1) := by decide +kernel
theorem dX6_still_26 : decode cX6_still 26 = .ok (.getfield 56, 3) := by decide +kernel
theorem dX6_still_29 : decode cX6_still 29 = .ok (.aload_n 2, 1) := by decide +kernel
theorem dX6_still_30 : decode cX6_still 30 = .ok (.invokevirtual 187, 3) := by decide +kernel
theorem dX6_still_33 : decode cX6_still 33 = .ok (.iadd, 1) := by decide +kernel
theorem dX6_still_34 : decode cX6_still 34 = .ok (.putfield 56, 3) := by decide +kernel
theorem dX6_still_37 : decode cX6_still 37 = .ok (.aload_n 0, 1) := by decide +kernel
theorem dX6_still_38 : decode cX6_still 38 = .ok (.dup, 1) := by decide +kernel
theorem dX6_still_39 : decode cX6_still 39 = .ok (.getfield 59, 3) := by decide +kernel
theorem dX6_still_42 : decode cX6_still 42 = .ok (.aload_n 2, 1) := by decide +kernel
theorem dX6_still_43 : decode cX6_still 43 = .ok (.invokevirtual 190, 3) := by decide +kernel
theorem dX6_still_46 : decode cX6_still 46 = .ok (.iadd, 1) := by decide +kernel
theorem dX6_still_47 : decode cX6_still 47 = .ok (.putfield 59, 3) := by decide +kernel
theorem dX6_still_50 : decode cX6_still 50 = .ok (.aload_n 2, 1) := by decide +kernel
theorem dX6_still_51 : decode cX6_still 51 = .ok (.invokevirtual 187, 3) := by decide +kernel
theorem dX6_still_54 : decode cX6_still 54 = .ok (.sipush 10000, 3) := by decide +kernel
theorem dX6_still_57 : decode cX6_still 57 = .ok (.imul, 1) := by decide +kernel
theorem dX6_still_58 : decode cX6_still 58 = .ok (.aload_n 2, 1) := by decide +kernel
theorem dX6_still_59 : decode cX6_still 59 = .ok (.invokevirtual 190, 3) := by decide +kernel
theorem dX6_still_62 : decode cX6_still 62 = .ok (.iadd, 1) := by decide +kernel
theorem dX6_still_63 : decode cX6_still 63 = .ok (.ireturn, 1) := by decide +kernel
set_option maxRecDepth 20000 in
theorem ggX6_let_X6_woodAt : GoodIn wsX6_let wsX6_woodAt := goodIn_r _ [5, 6, 16, 17, 18, 19, 20, 21, 22, 23, 24, 25, 26, 27] (by decide +kernel) (by decide +kernel)
set_option maxRecDepth 20000 in
theorem gX6_let_X6_woodAt : GoodIn wsX6_let (wsV RX6 65 RX6 yX6_woodAt wsX6_woodAt) := goodIn_app (goodIn_of _ (by decide +kernel)) ggX6_let_X6_woodAt
set_option maxRecDepth 20000 in
theorem ggX6_let_X5_letFor : GoodIn wsX6_let wsX5_letFor := goodIn_r _ [11, 12, 13, 14, 15, 28, 29, 30, 31, 32, 33] (by decide +kernel) (by decide +kernel)
set_option maxRecDepth 20000 in
theorem gX6_let_X5_letFor : GoodIn wsX6_let (wsV RX6 193 RX5 yX5_letFor wsX5_letFor) := goodIn_app (goodIn_of _ (by decide +kernel)) ggX6_let_X5_letFor
theorem dX6_let_0 : decode cX6_let 0 = .ok (.aload_n 0, 1) := by decide +kernel
theorem dX6_let_1 : decode cX6_let 1 = .ok (.iload_n 1, 1) := by decide +kernel
theorem dX6_let_2 : decode cX6_let 2 = .ok (.invokevirtual 65, 3) := by decide +kernel
theorem dX6_let_5 : decode cX6_let 5 = .ok (.astore_n 3, 1) := by decide +kernel
theorem dX6_let_6 : decode cX6_let 6 = .ok (.aload_n 3, 1) := by decide +kernel
theorem dX6_let_7 : decode cX6_let 7 = .ok (.ifnull 13, 3) := by decide +kernel
theorem dX6_let_10 : decode cX6_let 10 = .ok (.iload_n 2, 1) := by decide +kernel
theorem dX6_let_11 : decode cX6_let 11 = .ok (.ifCond .lt 9, 3) := by decide +kernel
theorem dX6_let_14 : decode cX6_let 14 = .ok (.iload_n 2, 1) := by decide +kernel
theorem dX6_let_15 : decode cX6_let 15 = .ok (.bipush 100, 2) := by decide +kernel
theorem dX6_let_17 : decode cX6_let 17 = .ok (.if_icmp .le 5, 3) := by decide +kernel
theorem dX6_let_20 : decode cX6_let 20 = .ok (.iconst 0, 1) := by decide +kernel
theorem dX6_let_21 : decode cX6_let 21 = .ok (.ireturn, 1) := by decide +kernel
theorem dX6_let_22 : decode cX6_let 22 = .ok (.aload_n 3, 1) := by decide +kernel
theorem dX6_let_23 : decode cX6_let 23 = .ok (.iload_n 2, 1) := by decide +kernel
theorem dX6_let_24 : decode cX6_let 24 = .ok (.invokevirtual 193, 3) := by decide +kernel
theorem dX6_let_27 : decode cX6_let 27 = .ok (.iconst 1, 1) := by decide +kernel
theorem dX6_let_28 : decode cX6_let 28 = .ok (.ireturn, 1) := by decide +kernel
set_option maxRecDepth 20000 in
theorem ggX6_due_X6_woodAt : GoodIn wsX6_due wsX6_woodAt := goodIn_r _ [5, 6, 16, 17, 18, 19, 20, 21, 22, 23, 24, 25, 26, 27] (by decide +kernel) (by decide +kernel)
set_option maxRecDepth 20000 in
theorem gX6_due_X6_woodAt : GoodIn wsX6_due (wsV RX6 65 RX6 yX6_woodAt wsX6_woodAt) := goodIn_app (goodIn_of _ (by decide +kernel)) ggX6_due_X6_woodAt
set_option maxRecDepth 20000 in
theorem ggX6_due_X5_stillDue : GoodIn wsX6_due wsX5_stillDue := goodIn_r _ [11, 12, 13, 14, 15, 28, 29, 30, 31, 32, 33] (by decide +kernel) (by decide +kernel)
set_option maxRecDepth 20000 in
theorem gX6_due_X5_stillDue : GoodIn wsX6_due (wsV RX6 196 RX5 yX5_stillDue wsX5_stillDue) := goodIn_app (goodIn_of _ (by decide +kernel)) ggX6_due_X5_stillDue
theorem dX6_due_0 : decode cX6_due 0 = .ok (.aload_n 0, 1) := by decide +kernel
theorem dX6_due_1 : decode cX6_due 1 = .ok (.iload_n 1, 1) := by decide +kernel
theorem dX6_due_2 : decode cX6_due 2 = .ok (.invokevirtual 65, 3) := by decide +kernel
theorem dX6_due_5 : decode cX6_due 5 = .ok (.astore_n 2, 1) := by decide +kernel
theorem dX6_due_6 : decode cX6_due 6 = .ok (.aload_n 2, 1) := by decide +kernel
theorem dX6_due_7 : decode cX6_due 7 = .ok (.ifnonnull 7, 3) := by decide +kernel
theorem dX6_due_10 : decode cX6_due 10 = .ok (.iconst 0, 1) := by decide +kernel
theorem dX6_due_11 : decode cX6_due 11 = .ok (.goto 7, 3) := by decide +kernel
theorem dX6_due_14 : decode cX6_due 14 = .ok (.aload_n 2, 1) := by decide +kernel
theorem dX6_due_15 : decode cX6_due 15 = .ok (.invokevirtual 196, 3) := by decide +kernel
theorem dX6_due_18 : decode cX6_due 18 = .ok (.ireturn, 1) := by decide +kernel
set_option maxRecDepth 20000 in
theorem ggX6_pay_X6_barrelAt : GoodIn wsX6_pay wsX6_barrelAt := goodIn_r _ [11, 12, 13, 14, 15, 16, 17, 18, 19, 20, 21, 22, 23, 24, 25, 26, 27, 28, 29, 30, 31, 32, 33, 34, 35, 36, 65, 66, 67, 68, 69, 70, 71, 72, 73, 74, 75, 76, 77, 78, 79] (by decide +kernel) (by decide +kernel)
set_option maxRecDepth 20000 in
theorem gX6_pay_X6_barrelAt : GoodIn wsX6_pay (wsV RX6 166 RX6 yX6_barrelAt wsX6_barrelAt) := goodIn_app (goodIn_of _ (by decide +kernel)) ggX6_pay_X6_barrelAt
set_option maxRecDepth 20000 in
theorem ggX6_pay_X0_isGone : GoodIn wsX6_pay wsX0_isGone := goodIn_r _ [41, 42, 43, 53, 54, 55, 56, 57, 58] (by decide +kernel) (by decide +kernel)
set_option maxRecDepth 20000 in
theorem gX6_pay_X0_isGone : GoodIn wsX6_pay (wsV RX6 180 RX0 yX0_isGone wsX0_isGone) := goodIn_app (goodIn_of _ (by decide +kernel)) ggX6_pay_X0_isGone
set_option maxRecDepth 20000 in
theorem ggX6_pay_X5_stillDue : GoodIn wsX6_pay wsX5_stillDue := goodIn_r _ [48, 49, 50, 51, 52, 59, 60, 61, 62, 63, 64] (by decide +kernel) (by decide +kernel)
set_option maxRecDepth 20000 in
theorem gX6_pay_X5_stillDue : GoodIn wsX6_pay (wsV RX6 196 RX5 yX5_stillDue wsX5_stillDue) := goodIn_app (goodIn_of _ (by decide +kernel)) ggX6_pay_X5_stillDue
theorem dX6_pay_0 : decode cX6_pay 0 = .ok (.aload_n 0, 1) := by decide +kernel
theorem dX6_pay_1 : decode cX6_pay 1 = .ok (.iload_n 1, 1) := by decide +kernel
theorem dX6_pay_2 : decode cX6_pay 2 = .ok (.invokevirtual 166, 3) := by decide +kernel
theorem dX6_pay_5 : decode cX6_pay 5 = .ok (.astore_n 2, 1) := by decide +kernel
theorem dX6_pay_6 : decode cX6_pay 6 = .ok (.aload_n 2, 1) := by decide +kernel
theorem dX6_pay_7 : decode cX6_pay 7 = .ok (.ifnull 20, 3) := by decide +kernel
theorem dX6_pay_10 : decode cX6_pay 10 = .ok (.aload_n 2, 1) := by decide +kernel
theorem dX6_pay_11 : decode cX6_pay 11 = .ok (.invokevirtual 180, 3) := by decide +kernel
theorem dX6_pay_14 : decode cX6_pay 14 = .ok (.ifCond .ne 13, 3) := by decide +kernel
theorem dX6_pay_17 : decode cX6_pay 17 = .ok (.aload_n 2, 1) := by decide +kernel
theorem dX6_pay_18 : decode cX6_pay 18 = .ok (.getfield 199, 3) := by decide +kernel
theorem dX6_pay_21 : decode cX6_pay 21 = .ok (.getfield 200, 3) := by decide +kernel
theorem dX6_pay_24 : decode cX6_pay 24 = .ok (.ifCond .ne 6, 3) := by decide +kernel
theorem dX6_pay_27 : decode cX6_pay 27 = .ok (.ldc 203, 2) := by decide +kernel
theorem dX6_pay_29 : decode cX6_pay 29 = .ok (.ireturn, 1) := by decide +kernel
theorem dX6_pay_30 : decode cX6_pay 30 = .ok (.aload_n 2, 1) := by decide +kernel
theorem dX6_pay_31 : decode cX6_pay 31 = .ok (.iconst 1, 1) := by decide +kernel
theorem dX6_pay_32 : decode cX6_pay 32 = .ok (.putfield 204, 3) := by decide +kernel
theorem dX6_pay_35 : decode cX6_pay 35 = .ok (.aload_n 2, 1) := by decide +kernel
theorem dX6_pay_36 : decode cX6_pay 36 = .ok (.getfield 199, 3) := by decide +kernel
theorem dX6_pay_39 : decode cX6_pay 39 = .ok (.dup, 1) := by decide +kernel
theorem dX6_pay_40 : decode cX6_pay 40 = .ok (.getfield 207, 3) := by decide +kernel
theorem dX6_pay_43 : decode cX6_pay 43 = .ok (.aload_n 2, 1) := by decide +kernel
theorem dX6_pay_44 : decode cX6_pay 44 = .ok (.getfield 210, 3) := by decide +kernel
theorem dX6_pay_47 : decode cX6_pay 47 = .ok (.iadd, 1) := by decide +kernel
theorem dX6_pay_48 : decode cX6_pay 48 = .ok (.putfield 207, 3) := by decide +kernel
theorem dX6_pay_51 : decode cX6_pay 51 = .ok (.aload_n 2, 1) := by decide +kernel
theorem dX6_pay_52 : decode cX6_pay 52 = .ok (.getfield 199, 3) := by decide +kernel
theorem dX6_pay_55 : decode cX6_pay 55 = .ok (.invokevirtual 196, 3) := by decide +kernel
theorem dX6_pay_58 : decode cX6_pay 58 = .ok (.ireturn, 1) := by decide +kernel
set_option maxRecDepth 20000 in
theorem ggX6_burn_X6_woodAt : GoodIn wsX6_burn wsX6_woodAt := goodIn_r _ [12, 13, 65, 66, 67, 68, 69, 70, 71, 72, 73, 74, 75, 76] (by decide +kernel) (by decide +kernel)
set_option maxRecDepth 20000 in
theorem gX6_burn_X6_woodAt : GoodIn wsX6_burn (wsV RX6 65 RX6 yX6_woodAt wsX6_woodAt) := goodIn_app (goodIn_of _ (by decide +kernel)) ggX6_burn_X6_woodAt
set_option maxRecDepth 20000 in
theorem ggX6_burn_Jx4a65c_size_8abf5 : GoodIn wsX6_burn wsJx4a65c_size_8abf5 := goodIn_r _ [18, 19, 84, 85, 86] (by decide +kernel) (by decide +kernel)
set_option maxRecDepth 20000 in
theorem gX6_burn_Jx4a65c_size_8abf5_f76Jx4a65c : GoodIn wsX6_burn (va_wsF RX6 76 RJx4a65c ⟨"java/util/List", "size", "()I"⟩ yJx4a65c_size_8abf5 wsJx4a65c_size_8abf5) := goodIn_app (goodIn_of _ (by decide +kernel)) ggX6_burn_Jx4a65c_size_8abf5
set_option maxRecDepth 20000 in
theorem ggX6_burn_Jx4a65c_get_915e3 : GoodIn wsX6_burn wsJx4a65c_get_915e3 := goodIn_r _ [23, 19, 24, 25, 26, 27, 28, 29, 30, 31, 32, 33, 34, 17, 35, 36, 84, 85, 86] (by decide +kernel) (by decide +kernel)
set_option maxRecDepth 20000 in
theorem gX6_burn_Jx4a65c_get_915e3_f157Jx4a65c : GoodIn wsX6_burn (va_wsF RX6 157 RJx4a65c ⟨"java/util/List", "get", "(I)Ljava/lang/Object;"⟩ yJx4a65c_get_915e3 wsJx4a65c_get_915e3) := goodIn_app (goodIn_of _ (by decide +kernel)) ggX6_burn_Jx4a65c_get_915e3
set_option maxRecDepth 20000 in
theorem ggX6_burn_X4_takeFire : GoodIn wsX6_burn wsX4_takeFire := goodIn_r _ [41, 42, 43, 44, 45, 46, 47, 40, 48, 49, 50, 15, 16, 17, 18, 19, 51, 21, 22, 23, 24, 25, 26, 27, 28, 29, 30, 31, 32, 33, 34, 35, 36, 52, 53, 54, 55, 56, 57, 58, 77, 78, 79, 80, 81, 82, 83, 87, 88, 89, 90, 91, 92, 84, 85, 86] (by decide +kernel) (by decide +kernel)
set_option maxRecDepth 20000 in
theorem gX6_burn_X4_takeFire : GoodIn wsX6_burn (wsV RX6 214 RX4 yX4_takeFire wsX4_takeFire) := goodIn_app (goodIn_of _ (by decide +kernel)) ggX6_burn_X4_takeFire
theorem dX6_burn_0 : decode cX6_burn 0 = .ok (.aload_n 0, 1) := by decide +kernel
theorem dX6_burn_1 : decode cX6_burn 1 = .ok (.iload_n 1, 1) := by decide +kernel
theorem dX6_burn_2 : decode cX6_burn 2 = .ok (.invokevirtual 65, 3) := by decide +kernel
theorem dX6_burn_5 : decode cX6_burn 5 = .ok (.astore_n 2, 1) := by decide +kernel
theorem dX6_burn_6 : decode cX6_burn 6 = .ok (.aload_n 2, 1) := by decide +kernel
theorem dX6_burn_7 : decode cX6_burn 7 = .ok (.ifnonnull 5, 3) := by decide +kernel
theorem dX6_burn_10 : decode cX6_burn 10 = .ok (.iconst (-1), 1) := by decide +kernel
theorem dX6_burn_11 : decode cX6_burn 11 = .ok (.ireturn, 1) := by decide +kernel
theorem dX6_burn_12 : decode cX6_burn 12 = .ok (.aload_n 2, 1) := by decide +kernel
theorem dX6_burn_13 : decode cX6_burn 13 = .ok (.iconst 0, 1) := by decide +kernel
theorem dX6_burn_14 : decode cX6_burn 14 = .ok (.putfield 200, 3) := by decide +kernel
theorem dX6_burn_17 : decode cX6_burn 17 = .ok (.iconst 0, 1) := by decide +kernel
theorem dX6_burn_18 : decode cX6_burn 18 = .ok (.istore_n 3, 1) := by decide +kernel
theorem dX6_burn_19 : decode cX6_burn 19 = .ok (.iconst 0, 1) := by decide +kernel
theorem dX6_burn_20 : decode cX6_burn 20 = .ok (.istore 4, 2) := by decide +kernel
theorem dX6_burn_22 : decode cX6_burn 22 = .ok (.iload 4, 2) := by decide +kernel
theorem dX6_burn_24 : decode cX6_burn 24 = .ok (.aload_n 0, 1) := by decide +kernel
theorem dX6_burn_25 : decode cX6_burn 25 = .ok (.getfield 25, 3) := by decide +kernel
theorem dX6_burn_28 : decode cX6_burn 28 = .ok (.invokeinterface 76 1, 5) := by decide +kernel
theorem dX6_burn_33 : decode cX6_burn 33 = .ok (.if_icmp .ge 62, 3) := by decide +kernel
theorem dX6_burn_36 : decode cX6_burn 36 = .ok (.aload_n 0, 1) := by decide +kernel
theorem dX6_burn_37 : decode cX6_burn 37 = .ok (.getfield 25, 3) := by decide +kernel
theorem dX6_burn_40 : decode cX6_burn 40 = .ok (.iload 4, 2) := by decide +kernel
theorem dX6_burn_42 : decode cX6_burn 42 = .ok (.invokeinterface 157 2, 5) := by decide +kernel
theorem dX6_burn_47 : decode cX6_burn 47 = .ok (.checkcast 82, 3) := by decide +kernel
theorem dX6_burn_50 : decode cX6_burn 50 = .ok (.astore 5, 2) := by decide +kernel
theorem dX6_burn_52 : decode cX6_burn 52 = .ok (.aload 5, 2) := by decide +kernel
theorem dX6_burn_54 : decode cX6_burn 54 = .ok (.getfield 146, 3) := by decide +kernel
theorem dX6_burn_57 : decode cX6_burn 57 = .ok (.getfield 213, 3) := by decide +kernel
theorem dX6_burn_60 : decode cX6_burn 60 = .ok (.iload_n 1, 1) := by decide +kernel
theorem dX6_burn_61 : decode cX6_burn 61 = .ok (.if_icmp .ne 28, 3) := by decide +kernel
theorem dX6_burn_64 : decode cX6_burn 64 = .ok (.aload 5, 2) := by decide +kernel
theorem dX6_burn_66 : decode cX6_burn 66 = .ok (.getfield 102, 3) := by decide +kernel
theorem dX6_burn_69 : decode cX6_burn 69 = .ok (.ifCond .ne 20, 3) := by decide +kernel
theorem dX6_burn_72 : decode cX6_burn 72 = .ok (.aload_n 0, 1) := by decide +kernel
theorem dX6_burn_73 : decode cX6_burn 73 = .ok (.dup, 1) := by decide +kernel
theorem dX6_burn_74 : decode cX6_burn 74 = .ok (.getfield 53, 3) := by decide +kernel
theorem dX6_burn_77 : decode cX6_burn 77 = .ok (.aload 5, 2) := by decide +kernel
theorem dX6_burn_79 : decode cX6_burn 79 = .ok (.invokevirtual 214, 3) := by decide +kernel
theorem dX6_burn_82 : decode cX6_burn 82 = .ok (.iadd, 1) := by decide +kernel
theorem dX6_burn_83 : decode cX6_burn 83 = .ok (.putfield 53, 3) := by decide +kernel
theorem dX6_burn_86 : decode cX6_burn 86 = .ok (.iinc 3 1, 3) := by decide +kernel
theorem dX6_burn_89 : decode cX6_burn 89 = .ok (.iinc 4 1, 3) := by decide +kernel
theorem dX6_burn_92 : decode cX6_burn 92 = .ok (.goto (-70), 3) := by decide +kernel
theorem dX6_burn_95 : decode cX6_burn 95 = .ok (.iload_n 3, 1) := by decide +kernel
theorem dX6_burn_96 : decode cX6_burn 96 = .ok (.ireturn, 1) := by decide +kernel
set_option maxRecDepth 20000 in
theorem ggX6_walk_X6_planWalk : GoodIn wsX6_walk wsX6_planWalk := goodIn_r _ [9, 1, 10, 11, 12, 13, 14, 15, 16, 17, 18, 8, 19, 20, 21, 22, 23, 24, 25, 26, 27, 28, 29, 30, 31, 32, 33, 34, 35, 36, 37, 38, 39, 40, 41, 42, 43, 44, 45, 46, 47, 48, 49, 50, 51, 52, 53, 54, 55, 56, 57, 58, 59, 60, 61, 62, 63, 64, 65, 66, 67, 68, 69, 70, 71, 72, 73, 74, 75, 76, 77, 78, 79, 80, 81, 82, 83, 84, 85, 86, 87, 88, 89, 90, 91, 92, 93, 94, 95, 96, 97, 98, 99, 100, 101, 102, 103, 104, 105, 106, 107, 108, 109, 110, 111, 112, 113, 114, 115, 116, 117, 118, 119, 120, 121, 122, 123, 124, 125, 126, 127, 128, 129, 130, 131, 132, 133, 134, 135, 136, 137, 138, 139, 140, 141, 142, 143, 144, 145, 146, 147, 148, 149, 150, 151, 152, 153, 154, 155, 156, 157, 158, 159, 160, 161, 162, 163, 164, 165, 166, 167, 168, 169, 170, 171, 172, 173, 174, 175, 176, 177, 178, 179, 180, 181, 182, 183, 184, 185, 186, 187, 188, 189, 190] (by decide +kernel) (by decide +kernel)
set_option maxRecDepth 20000 in
theorem gX6_walk_X6_planWalk : GoodIn wsX6_walk (wsV RX6 217 RX6 yX6_planWalk wsX6_planWalk) := goodIn_app (goodIn_of _ (by decide +kernel)) ggX6_walk_X6_planWalk
theorem dX6_walk_0 : decode cX6_walk 0 = .ok (.aload_n 0, 1) := by decide +kernel
theorem dX6_walk_1 : decode cX6_walk 1 = .ok (.iload_n 1, 1) := by decide +kernel
theorem dX6_walk_2 : decode cX6_walk 2 = .ok (.iload_n 2, 1) := by decide +kernel
theorem dX6_walk_3 : decode cX6_walk 3 = .ok (.iload_n 3, 1) := by decide +kernel
theorem dX6_walk_4 : decode cX6_walk 4 = .ok (.invokevirtual 217, 3) := by decide +kernel
theorem dX6_walk_7 : decode cX6_walk 7 = .ok (.ifCond .eq 20, 3) := by decide +kernel
theorem dX6_walk_10 : decode cX6_walk 10 = .ok (.iload 4, 2) := by decide +kernel
theorem dX6_walk_12 : decode cX6_walk 12 = .ok (.ifCond .lt 15, 3) := by decide +kernel
theorem dX6_walk_15 : decode cX6_walk 15 = .ok (.iload 4, 2) := by decide +kernel
theorem dX6_walk_17 : decode cX6_walk 17 = .ok (.aload_n 0, 1) := by decide +kernel
theorem dX6_walk_18 : decode cX6_walk 18 = .ok (.getfield 42, 3) := by decide +kernel
theorem dX6_walk_21 : decode cX6_walk 21 = .ok (.getfield 221, 3) := by decide +kernel
theorem dX6_walk_24 : decode cX6_walk 24 = .ok (.if_icmp .lt 5, 3) := by decide +kernel
theorem dX6_walk_27 : decode cX6_walk 27 = .ok (.iconst (-1), 1) := by decide +kernel
theorem dX6_walk_28 : decode cX6_walk 28 = .ok (.ireturn, 1) := by decide +kernel
theorem dX6_walk_29 : decode cX6_walk 29 = .ok (.aload_n 0, 1) := by decide +kernel
theorem dX6_walk_30 : decode cX6_walk 30 = .ok (.getfield 42, 3) := by decide +kernel
theorem dX6_walk_33 : decode cX6_walk 33 = .ok (.getfield 223, 3) := by decide +kernel
theorem dX6_walk_36 : decode cX6_walk 36 = .ok (.aload_n 0, 1) := by decide +kernel
theorem dX6_walk_37 : decode cX6_walk 37 = .ok (.getfield 42, 3) := by decide +kernel
theorem dX6_walk_40 : decode cX6_walk 40 = .ok (.getfield 226, 3) := by decide +kernel
theorem dX6_walk_43 : decode cX6_walk 43 = .ok (.iload 4, 2) := by decide +kernel
theorem dX6_walk_45 : decode cX6_walk 45 = .ok (.iaload, 1) := by decide +kernel
theorem dX6_walk_46 : decode cX6_walk 46 = .ok (.iaload, 1) := by decide +kernel
theorem dX6_walk_47 : decode cX6_walk 47 = .ok (.ireturn, 1) := by decide +kernel
set_option maxRecDepth 20000 in
theorem ggX6_walked_X6_planWalk : GoodIn wsX6_walked wsX6_planWalk := goodIn_r _ [8, 1, 9, 10, 11, 12, 13, 14, 15, 16, 17, 7, 18, 19, 20, 21, 22, 23, 24, 25, 26, 27, 28, 29, 30, 31, 32, 33, 34, 35, 36, 37, 38, 39, 40, 41, 42, 43, 44, 45, 46, 47, 48, 49, 50, 51, 52, 53, 54, 55, 56, 57, 58, 59, 60, 61, 62, 63, 64, 65, 66, 67, 68, 69, 70, 71, 72, 73, 74, 75, 76, 77, 78, 79, 80, 81, 82, 83, 84, 85, 86, 87, 88, 89, 90, 91, 92, 93, 94, 95, 96, 97, 98, 99, 100, 101, 102, 103, 104, 105, 106, 107, 108, 109, 110, 111, 112, 113, 114, 115, 116, 117, 118, 119, 120, 121, 122, 123, 124, 125, 126, 127, 128, 129, 130, 131, 132, 133, 134, 135, 136, 137, 138, 139, 140, 141, 142, 143, 144, 145, 146, 147, 148, 149, 150, 151, 152, 153, 154, 155, 156, 157, 158, 159, 160, 161, 162, 163, 164, 165, 166, 167, 168, 169, 170, 171, 172, 173, 174, 175, 176, 177, 178, 179, 180, 181, 182, 183, 184, 185, 186, 187, 188, 189] (by decide +kernel) (by decide +kernel)
set_option maxRecDepth 20000 in
theorem gX6_walked_X6_planWalk : GoodIn wsX6_walked (wsV RX6 217 RX6 yX6_planWalk wsX6_planWalk) := goodIn_app (goodIn_of _ (by decide +kernel)) ggX6_walked_X6_planWalk
theorem dX6_walked_0 : decode cX6_walked 0 = .ok (.iload 4, 2) := by decide +kernel
theorem dX6_walked_2 : decode cX6_walked 2 = .ok (.ifCond .lt 19, 3) := by decide +kernel
theorem dX6_walked_5 : decode cX6_walked 5 = .ok (.iload 4, 2) := by decide +kernel
theorem dX6_walked_7 : decode cX6_walked 7 = .ok (.iconst 1, 1) := by decide +kernel
theorem dX6_walked_8 : decode cX6_walked 8 = .ok (.if_icmp .gt 13, 3) := by decide +kernel
theorem dX6_walked_11 : decode cX6_walked 11 = .ok (.aload_n 0, 1) := by decide +kernel
theorem dX6_walked_12 : decode cX6_walked 12 = .ok (.iload_n 1, 1) := by decide +kernel
theorem dX6_walked_13 : decode cX6_walked 13 = .ok (.iload_n 2, 1) := by decide +kernel
theorem dX6_walked_14 : decode cX6_walked 14 = .ok (.iload_n 3, 1) := by decide +kernel
theorem dX6_walked_15 : decode cX6_walked 15 = .ok (.invokevirtual 217, 3) := by decide +kernel
theorem dX6_walked_18 : decode cX6_walked 18 = .ok (.ifCond .ne 5, 3) := by decide +kernel
theorem dX6_walked_21 : decode cX6_walked 21 = .ok (.iconst (-1), 1) := by decide +kernel
theorem dX6_walked_22 : decode cX6_walked 22 = .ok (.ireturn, 1) := by decide +kernel
theorem dX6_walked_23 : decode cX6_walked 23 = .ok (.iload 4, 2) := by decide +kernel
theorem dX6_walked_25 : decode cX6_walked 25 = .ok (.ifCond .ne 13, 3) := by decide +kernel
theorem dX6_walked_28 : decode cX6_walked 28 = .ok (.aload_n 0, 1) := by decide +kernel
theorem dX6_walked_29 : decode cX6_walked 29 = .ok (.getfield 42, 3) := by decide +kernel
theorem dX6_walked_32 : decode cX6_walked 32 = .ok (.getfield 229, 3) := by decide +kernel
theorem dX6_walked_35 : decode cX6_walked 35 = .ok (.goto 10, 3) := by decide +kernel
theorem dX6_walked_38 : decode cX6_walked 38 = .ok (.aload_n 0, 1) := by decide +kernel
theorem dX6_walked_39 : decode cX6_walked 39 = .ok (.getfield 42, 3) := by decide +kernel
theorem dX6_walked_42 : decode cX6_walked 42 = .ok (.getfield 232, 3) := by decide +kernel
theorem dX6_walked_45 : decode cX6_walked 45 = .ok (.ireturn, 1) := by decide +kernel
set_option maxRecDepth 20000 in
theorem ggX6_count_Jx4a65c_size_8abf5 : GoodIn wsX6_count wsJx4a65c_size_8abf5 := goodIn_r _ [16, 17, 66, 67, 68] (by decide +kernel) (by decide +kernel)
set_option maxRecDepth 20000 in
theorem gX6_count_Jx4a65c_size_8abf5_f76Jx4a65c : GoodIn wsX6_count (va_wsF RX6 76 RJx4a65c ⟨"java/util/List", "size", "()I"⟩ yJx4a65c_size_8abf5 wsJx4a65c_size_8abf5) := goodIn_app (goodIn_of _ (by decide +kernel)) ggX6_count_Jx4a65c_size_8abf5
set_option maxRecDepth 20000 in
theorem ggX6_count_X6_inAllCups : GoodIn wsX6_count wsX6_inAllCups := goodIn_r _ [22, 2, 23, 12, 13, 14, 15, 16, 17, 24, 25, 26, 27, 28, 29, 30, 31, 32, 33, 34, 35, 36, 37, 38, 39, 40, 41, 42, 43, 44, 45, 46, 47, 48, 49, 50, 51, 52, 53, 54, 55, 56, 57, 58, 59, 60, 61, 62, 66, 67, 68, 69, 70, 71, 72, 73, 74, 75, 76, 77, 78, 79, 80, 81] (by decide +kernel) (by decide +kernel)
set_option maxRecDepth 20000 in
theorem gX6_count_X6_inAllCups : GoodIn wsX6_count (wsV RX6 244 RX6 yX6_inAllCups wsX6_inAllCups) := goodIn_app (goodIn_of _ (by decide +kernel)) ggX6_count_X6_inAllCups
theorem dX6_count_0 : decode cX6_count 0 = .ok (.iload_n 1, 1) := by decide +kernel
theorem dX6_count_1 : decode cX6_count 1 = .ok (.tableswitch 133 0 10 #[59, 64, 74, 84, 92, 100, 108, 113, 118, 123, 128], 59) := by decide +kernel
theorem dX6_count_60 : decode cX6_count 60 = .ok (.aload_n 0, 1) := by decide +kernel
theorem dX6_count_61 : decode cX6_count 61 = .ok (.getfield 46, 3) := by decide +kernel
theorem dX6_count_64 : decode cX6_count 64 = .ok (.ireturn, 1) := by decide +kernel
theorem dX6_count_65 : decode cX6_count 65 = .ok (.aload_n 0, 1) := by decide +kernel
theorem dX6_count_66 : decode cX6_count 66 = .ok (.getfield 25, 3) := by decide +kernel
theorem dX6_count_69 : decode cX6_count 69 = .ok (.invokeinterface 76 1, 5) := by decide +kernel
theorem dX6_count_74 : decode cX6_count 74 = .ok (.ireturn, 1) := by decide +kernel
theorem dX6_count_75 : decode cX6_count 75 = .ok (.aload_n 0, 1) := by decide +kernel
theorem dX6_count_76 : decode cX6_count 76 = .ok (.getfield 29, 3) := by decide +kernel
theorem dX6_count_79 : decode cX6_count 79 = .ok (.invokeinterface 76 1, 5) := by decide +kernel
theorem dX6_count_84 : decode cX6_count 84 = .ok (.ireturn, 1) := by decide +kernel
theorem dX6_count_85 : decode cX6_count 85 = .ok (.aload_n 0, 1) := by decide +kernel
theorem dX6_count_86 : decode cX6_count 86 = .ok (.getfield 35, 3) := by decide +kernel
theorem dX6_count_89 : decode cX6_count 89 = .ok (.getfield 235, 3) := by decide +kernel
theorem dX6_count_92 : decode cX6_count 92 = .ok (.ireturn, 1) := by decide +kernel
theorem dX6_count_93 : decode cX6_count 93 = .ok (.aload_n 0, 1) := by decide +kernel
theorem dX6_count_94 : decode cX6_count 94 = .ok (.getfield 35, 3) := by decide +kernel
theorem dX6_count_97 : decode cX6_count 97 = .ok (.getfield 238, 3) := by decide +kernel
theorem dX6_count_100 : decode cX6_count 100 = .ok (.ireturn, 1) := by decide +kernel
theorem dX6_count_101 : decode cX6_count 101 = .ok (.aload_n 0, 1) := by decide +kernel
theorem dX6_count_102 : decode cX6_count 102 = .ok (.getfield 35, 3) := by decide +kernel
theorem dX6_count_105 : decode cX6_count 105 = .ok (.getfield 241, 3) := by decide +kernel
theorem dX6_count_108 : decode cX6_count 108 = .ok (.ireturn, 1) := by decide +kernel
theorem dX6_count_109 : decode cX6_count 109 = .ok (.aload_n 0, 1) := by decide +kernel
theorem dX6_count_110 : decode cX6_count 110 = .ok (.getfield 53, 3) := by decide +kernel
theorem dX6_count_113 : decode cX6_count 113 = .ok (.ireturn, 1) := by decide +kernel
theorem dX6_count_114 : decode cX6_count 114 = .ok (.aload_n 0, 1) := by decide +kernel
theorem dX6_count_115 : decode cX6_count 115 = .ok (.invokevirtual 244, 3) := by decide +kernel
theorem dX6_count_118 : decode cX6_count 118 = .ok (.ireturn, 1) := by decide +kernel
theorem dX6_count_119 : decode cX6_count 119 = .ok (.aload_n 0, 1) := by decide +kernel
theorem dX6_count_120 : decode cX6_count 120 = .ok (.getfield 50, 3) := by decide +kernel
theorem dX6_count_123 : decode cX6_count 123 = .ok (.ireturn, 1) := by decide +kernel
theorem dX6_count_124 : decode cX6_count 124 = .ok (.aload_n 0, 1) := by decide +kernel
theorem dX6_count_125 : decode cX6_count 125 = .ok (.getfield 56, 3) := by decide +kernel
theorem dX6_count_128 : decode cX6_count 128 = .ok (.ireturn, 1) := by decide +kernel
theorem dX6_count_129 : decode cX6_count 129 = .ok (.aload_n 0, 1) := by decide +kernel
theorem dX6_count_130 : decode cX6_count 130 = .ok (.getfield 59, 3) := by decide +kernel
theorem dX6_count_133 : decode cX6_count 133 = .ok (.ireturn, 1) := by decide +kernel
theorem dX6_count_134 : decode cX6_count 134 = .ok (.iconst (-1), 1) := by decide +kernel
theorem dX6_count_135 : decode cX6_count 135 = .ok (.ireturn, 1) := by decide +kernel
theorem dX6_isPlace_0 : decode cX6_isPlace 0 = .ok (.iload_n 0, 1) := by decide +kernel
theorem dX6_isPlace_1 : decode cX6_isPlace 1 = .ok (.ifCond .lt 14, 3) := by decide +kernel
theorem dX6_isPlace_4 : decode cX6_isPlace 4 = .ok (.iload_n 0, 1) := by decide +kernel
theorem dX6_isPlace_5 : decode cX6_isPlace 5 = .ok (.sipush 10000, 3) := by decide +kernel
theorem dX6_isPlace_8 : decode cX6_isPlace 8 = .ok (.if_icmp .ge 7, 3) := by decide +kernel
theorem dX6_isPlace_11 : decode cX6_isPlace 11 = .ok (.iconst 1, 1) := by decide +kernel
theorem dX6_isPlace_12 : decode cX6_isPlace 12 = .ok (.goto 4, 3) := by decide +kernel
theorem dX6_isPlace_15 : decode cX6_isPlace 15 = .ok (.iconst 0, 1) := by decide +kernel
theorem dX6_isPlace_16 : decode cX6_isPlace 16 = .ok (.ireturn, 1) := by decide +kernel
theorem dX6_isGirth_0 : decode cX6_isGirth 0 = .ok (.iload_n 0, 1) := by decide +kernel
theorem dX6_isGirth_1 : decode cX6_isGirth 1 = .ok (.bipush 20, 2) := by decide +kernel
theorem dX6_isGirth_3 : decode cX6_isGirth 3 = .ok (.if_icmp .lt 14, 3) := by decide +kernel
theorem dX6_isGirth_6 : decode cX6_isGirth 6 = .ok (.iload_n 0, 1) := by decide +kernel
theorem dX6_isGirth_7 : decode cX6_isGirth 7 = .ok (.sipush 400, 3) := by decide +kernel
theorem dX6_isGirth_10 : decode cX6_isGirth 10 = .ok (.if_icmp .gt 7, 3) := by decide +kernel
theorem dX6_isGirth_13 : decode cX6_isGirth 13 = .ok (.iconst 1, 1) := by decide +kernel
theorem dX6_isGirth_14 : decode cX6_isGirth 14 = .ok (.goto 4, 3) := by decide +kernel
theorem dX6_isGirth_17 : decode cX6_isGirth 17 = .ok (.iconst 0, 1) := by decide +kernel
theorem dX6_isGirth_18 : decode cX6_isGirth 18 = .ok (.ireturn, 1) := by decide +kernel
theorem dX6_isWeather_0 : decode cX6_isWeather 0 = .ok (.iload_n 0, 1) := by decide +kernel
theorem dX6_isWeather_1 : decode cX6_isWeather 1 = .ok (.ifCond .lt 13, 3) := by decide +kernel
theorem dX6_isWeather_4 : decode cX6_isWeather 4 = .ok (.iload_n 0, 1) := by decide +kernel
theorem dX6_isWeather_5 : decode cX6_isWeather 5 = .ok (.bipush 9, 2) := by decide +kernel
theorem dX6_isWeather_7 : decode cX6_isWeather 7 = .ok (.if_icmp .gt 7, 3) := by decide +kernel
theorem dX6_isWeather_10 : decode cX6_isWeather 10 = .ok (.iconst 1, 1) := by decide +kernel
theorem dX6_isWeather_11 : decode cX6_isWeather 11 = .ok (.goto 4, 3) := by decide +kernel
theorem dX6_isWeather_14 : decode cX6_isWeather 14 = .ok (.iconst 0, 1) := by decide +kernel
theorem dX6_isWeather_15 : decode cX6_isWeather 15 = .ok (.ireturn, 1) := by decide +kernel
theorem dX6_facesBorneBy_0 : decode cX6_facesBorneBy 0 = .ok (.iload_n 0, 1) := by decide +kernel
theorem dX6_facesBorneBy_1 : decode cX6_facesBorneBy 1 = .ok (.bipush 80, 2) := by decide +kernel
theorem dX6_facesBorneBy_3 : decode cX6_facesBorneBy 3 = .ok (.if_icmp .ge 5, 3) := by decide +kernel
theorem dX6_facesBorneBy_6 : decode cX6_facesBorneBy 6 = .ok (.iconst 0, 1) := by decide +kernel
theorem dX6_facesBorneBy_7 : decode cX6_facesBorneBy 7 = .ok (.ireturn, 1) := by decide +kernel
theorem dX6_facesBorneBy_8 : decode cX6_facesBorneBy 8 = .ok (.iload_n 0, 1) := by decide +kernel
theorem dX6_facesBorneBy_9 : decode cX6_facesBorneBy 9 = .ok (.sipush 150, 3) := by decide +kernel
theorem dX6_facesBorneBy_12 : decode cX6_facesBorneBy 12 = .ok (.if_icmp .ge 5, 3) := by decide +kernel
theorem dX6_facesBorneBy_15 : decode cX6_facesBorneBy 15 = .ok (.iconst 1, 1) := by decide +kernel
theorem dX6_facesBorneBy_16 : decode cX6_facesBorneBy 16 = .ok (.ireturn, 1) := by decide +kernel
theorem dX6_facesBorneBy_17 : decode cX6_facesBorneBy 17 = .ok (.iload_n 0, 1) := by decide +kernel
theorem dX6_facesBorneBy_18 : decode cX6_facesBorneBy 18 = .ok (.sipush 220, 3) := by decide +kernel
theorem dX6_facesBorneBy_21 : decode cX6_facesBorneBy 21 = .ok (.if_icmp .ge 7, 3) := by decide +kernel
theorem dX6_facesBorneBy_24 : decode cX6_facesBorneBy 24 = .ok (.iconst 2, 1) := by decide +kernel
theorem dX6_facesBorneBy_25 : decode cX6_facesBorneBy 25 = .ok (.goto 4, 3) := by decide +kernel
theorem dX6_facesBorneBy_28 : decode cX6_facesBorneBy 28 = .ok (.iconst 3, 1) := by decide +kernel
theorem dX6_facesBorneBy_29 : decode cX6_facesBorneBy 29 = .ok (.ireturn, 1) := by decide +kernel
theorem dX6_yearOf_0 : decode cX6_yearOf 0 = .ok (.iload_n 0, 1) := by decide +kernel
theorem dX6_yearOf_1 : decode cX6_yearOf 1 = .ok (.sipush 365, 3) := by decide +kernel
theorem dX6_yearOf_4 : decode cX6_yearOf 4 = .ok (.idiv, 1) := by decide +kernel
theorem dX6_yearOf_5 : decode cX6_yearOf 5 = .ok (.ireturn, 1) := by decide +kernel
theorem dX6_woodAt_0 : decode cX6_woodAt 0 = .ok (.iload_n 1, 1) := by decide +kernel
theorem dX6_woodAt_1 : decode cX6_woodAt 1 = .ok (.ifCond .lt 9, 3) := by decide +kernel
theorem dX6_woodAt_4 : decode cX6_woodAt 4 = .ok (.iload_n 1, 1) := by decide +kernel
theorem dX6_woodAt_5 : decode cX6_woodAt 5 = .ok (.bipush 6, 2) := by decide +kernel
theorem dX6_woodAt_7 : decode cX6_woodAt 7 = .ok (.if_icmp .lt 7, 3) := by decide +kernel
theorem dX6_woodAt_10 : decode cX6_woodAt 10 = .ok (.aconst_null, 1) := by decide +kernel
theorem dX6_woodAt_11 : decode cX6_woodAt 11 = .ok (.goto 9, 3) := by decide +kernel
theorem dX6_woodAt_14 : decode cX6_woodAt 14 = .ok (.aload_n 0, 1) := by decide +kernel
theorem dX6_woodAt_15 : decode cX6_woodAt 15 = .ok (.getfield 18, 3) := by decide +kernel
theorem dX6_woodAt_18 : decode cX6_woodAt 18 = .ok (.iload_n 1, 1) := by decide +kernel
theorem dX6_woodAt_19 : decode cX6_woodAt 19 = .ok (.aaload, 1) := by decide +kernel
theorem dX6_woodAt_20 : decode cX6_woodAt 20 = .ok (.areturn, 1) := by decide +kernel
set_option maxRecDepth 20000 in
theorem ggX6_treeAt_Jx4a65c_size_8abf5 : GoodIn wsX6_treeAt wsJx4a65c_size_8abf5 := goodIn_r _ [7, 8, 38, 39, 40] (by decide +kernel) (by decide +kernel)
set_option maxRecDepth 20000 in
theorem gX6_treeAt_Jx4a65c_size_8abf5_f76Jx4a65c : GoodIn wsX6_treeAt (va_wsF RX6 76 RJx4a65c ⟨"java/util/List", "size", "()I"⟩ yJx4a65c_size_8abf5 wsJx4a65c_size_8abf5) := goodIn_app (goodIn_of _ (by decide +kernel)) ggX6_treeAt_Jx4a65c_size_8abf5
set_option maxRecDepth 20000 in
theorem ggX6_treeAt_Jx4a65c_get_915e3 : GoodIn wsX6_treeAt wsJx4a65c_get_915e3 := goodIn_r _ [12, 8, 13, 14, 15, 16, 17, 18, 19, 20, 21, 22, 23, 6, 24, 25, 38, 39, 40] (by decide +kernel) (by decide +kernel)
set_option maxRecDepth 20000 in
theorem gX6_treeAt_Jx4a65c_get_915e3_f157Jx4a65c : GoodIn wsX6_treeAt (va_wsF RX6 157 RJx4a65c ⟨"java/util/List", "get", "(I)Ljava/lang/Object;"⟩ yJx4a65c_get_915e3 wsJx4a65c_get_915e3) := goodIn_app (goodIn_of _ (by decide +kernel)) ggX6_treeAt_Jx4a65c_get_915e3
theorem dX6_treeAt_0 : decode cX6_treeAt 0 = .ok (.iload_n 1, 1) := by decide +kernel
theorem dX6_treeAt_1 : decode cX6_treeAt 1 = .ok (.ifCond .lt 16, 3) := by decide +kernel
theorem dX6_treeAt_4 : decode cX6_treeAt 4 = .ok (.iload_n 1, 1) := by decide +kernel
theorem dX6_treeAt_5 : decode cX6_treeAt 5 = .ok (.aload_n 0, 1) := by decide +kernel
theorem dX6_treeAt_6 : decode cX6_treeAt 6 = .ok (.getfield 25, 3) := by decide +kernel
theorem dX6_treeAt_9 : decode cX6_treeAt 9 = .ok (.invokeinterface 76 1, 5) := by decide +kernel
theorem dX6_treeAt_14 : decode cX6_treeAt 14 = .ok (.if_icmp .lt 7, 3) := by decide +kernel
theorem dX6_treeAt_17 : decode cX6_treeAt 17 = .ok (.aconst_null, 1) := by decide +kernel
theorem dX6_treeAt_18 : decode cX6_treeAt 18 = .ok (.goto 16, 3) := by decide +kernel
theorem dX6_treeAt_21 : decode cX6_treeAt 21 = .ok (.aload_n 0, 1) := by decide +kernel
theorem dX6_treeAt_22 : decode cX6_treeAt 22 = .ok (.getfield 25, 3) := by decide +kernel
theorem dX6_treeAt_25 : decode cX6_treeAt 25 = .ok (.iload_n 1, 1) := by decide +kernel
theorem dX6_treeAt_26 : decode cX6_treeAt 26 = .ok (.invokeinterface 157 2, 5) := by decide +kernel
theorem dX6_treeAt_31 : decode cX6_treeAt 31 = .ok (.checkcast 82, 3) := by decide +kernel
theorem dX6_treeAt_34 : decode cX6_treeAt 34 = .ok (.areturn, 1) := by decide +kernel
set_option maxRecDepth 20000 in
theorem ggX6_barrelAt_Jx4a65c_size_8abf5 : GoodIn wsX6_barrelAt wsJx4a65c_size_8abf5 := goodIn_r _ [7, 8, 38, 39, 40] (by decide +kernel) (by decide +kernel)
set_option maxRecDepth 20000 in
theorem gX6_barrelAt_Jx4a65c_size_8abf5_f76Jx4a65c : GoodIn wsX6_barrelAt (va_wsF RX6 76 RJx4a65c ⟨"java/util/List", "size", "()I"⟩ yJx4a65c_size_8abf5 wsJx4a65c_size_8abf5) := goodIn_app (goodIn_of _ (by decide +kernel)) ggX6_barrelAt_Jx4a65c_size_8abf5
set_option maxRecDepth 20000 in
theorem ggX6_barrelAt_Jx4a65c_get_915e3 : GoodIn wsX6_barrelAt wsJx4a65c_get_915e3 := goodIn_r _ [12, 8, 13, 14, 15, 16, 17, 18, 19, 20, 21, 22, 23, 6, 24, 25, 38, 39, 40] (by decide +kernel) (by decide +kernel)
set_option maxRecDepth 20000 in
theorem gX6_barrelAt_Jx4a65c_get_915e3_f157Jx4a65c : GoodIn wsX6_barrelAt (va_wsF RX6 157 RJx4a65c ⟨"java/util/List", "get", "(I)Ljava/lang/Object;"⟩ yJx4a65c_get_915e3 wsJx4a65c_get_915e3) := goodIn_app (goodIn_of _ (by decide +kernel)) ggX6_barrelAt_Jx4a65c_get_915e3
theorem dX6_barrelAt_0 : decode cX6_barrelAt 0 = .ok (.iload_n 1, 1) := by decide +kernel
theorem dX6_barrelAt_1 : decode cX6_barrelAt 1 = .ok (.ifCond .lt 16, 3) := by decide +kernel
theorem dX6_barrelAt_4 : decode cX6_barrelAt 4 = .ok (.iload_n 1, 1) := by decide +kernel
theorem dX6_barrelAt_5 : decode cX6_barrelAt 5 = .ok (.aload_n 0, 1) := by decide +kernel
theorem dX6_barrelAt_6 : decode cX6_barrelAt 6 = .ok (.getfield 29, 3) := by decide +kernel
theorem dX6_barrelAt_9 : decode cX6_barrelAt 9 = .ok (.invokeinterface 76 1, 5) := by decide +kernel
theorem dX6_barrelAt_14 : decode cX6_barrelAt 14 = .ok (.if_icmp .lt 7, 3) := by decide +kernel
theorem dX6_barrelAt_17 : decode cX6_barrelAt 17 = .ok (.aconst_null, 1) := by decide +kernel
theorem dX6_barrelAt_18 : decode cX6_barrelAt 18 = .ok (.goto 16, 3) := by decide +kernel
theorem dX6_barrelAt_21 : decode cX6_barrelAt 21 = .ok (.aload_n 0, 1) := by decide +kernel
theorem dX6_barrelAt_22 : decode cX6_barrelAt 22 = .ok (.getfield 29, 3) := by decide +kernel
theorem dX6_barrelAt_25 : decode cX6_barrelAt 25 = .ok (.iload_n 1, 1) := by decide +kernel
theorem dX6_barrelAt_26 : decode cX6_barrelAt 26 = .ok (.invokeinterface 157 2, 5) := by decide +kernel
theorem dX6_barrelAt_31 : decode cX6_barrelAt 31 = .ok (.checkcast 171, 3) := by decide +kernel
theorem dX6_barrelAt_34 : decode cX6_barrelAt 34 = .ok (.areturn, 1) := by decide +kernel
set_option maxRecDepth 20000 in
theorem ggX6_endDay_Jx4a65c_size_8abf5 : GoodIn wsX6_endDay wsJx4a65c_size_8abf5 := goodIn_r _ [14, 15, 91, 92, 93] (by decide +kernel) (by decide +kernel)
set_option maxRecDepth 20000 in
theorem gX6_endDay_Jx4a65c_size_8abf5_f76Jx4a65c : GoodIn wsX6_endDay (va_wsF RX6 76 RJx4a65c ⟨"java/util/List", "size", "()I"⟩ yJx4a65c_size_8abf5 wsJx4a65c_size_8abf5) := goodIn_app (goodIn_of _ (by decide +kernel)) ggX6_endDay_Jx4a65c_size_8abf5
set_option maxRecDepth 20000 in
theorem ggX6_endDay_Jx4a65c_get_915e3 : GoodIn wsX6_endDay wsJx4a65c_get_915e3 := goodIn_r _ [19, 15, 20, 21, 22, 23, 24, 25, 26, 27, 28, 29, 30, 13, 31, 32, 91, 92, 93] (by decide +kernel) (by decide +kernel)
set_option maxRecDepth 20000 in
theorem gX6_endDay_Jx4a65c_get_915e3_f157Jx4a65c : GoodIn wsX6_endDay (va_wsF RX6 157 RJx4a65c ⟨"java/util/List", "get", "(I)Ljava/lang/Object;"⟩ yJx4a65c_get_915e3 wsJx4a65c_get_915e3) := goodIn_app (goodIn_of _ (by decide +kernel)) ggX6_endDay_Jx4a65c_get_915e3
set_option maxRecDepth 20000 in
theorem ggX6_endDay_X1_endDay : GoodIn wsX6_endDay wsX1_endDay := goodIn_r _ [37, 38, 39, 40, 41, 42, 43, 44, 36, 45, 46, 47, 48, 49, 50, 51, 52, 53, 54, 55, 56, 57, 58, 59, 60, 61, 62, 63, 64, 65, 66, 67, 68, 69, 70, 71, 94, 95, 96, 97, 98, 99, 100, 101, 102] (by decide +kernel) (by decide +kernel)
set_option maxRecDepth 20000 in
theorem gX6_endDay_X1_endDay : GoodIn wsX6_endDay (wsV RX6 247 RX1 yX1_endDay wsX1_endDay) := goodIn_app (goodIn_of _ (by decide +kernel)) ggX6_endDay_X1_endDay
theorem dX6_endDay_0 : decode cX6_endDay 0 = .ok (.iconst 0, 1) := by decide +kernel
theorem dX6_endDay_1 : decode cX6_endDay 1 = .ok (.istore_n 1, 1) := by decide +kernel
theorem dX6_endDay_2 : decode cX6_endDay 2 = .ok (.iload_n 1, 1) := by decide +kernel
theorem dX6_endDay_3 : decode cX6_endDay 3 = .ok (.aload_n 0, 1) := by decide +kernel
theorem dX6_endDay_4 : decode cX6_endDay 4 = .ok (.getfield 25, 3) := by decide +kernel
theorem dX6_endDay_7 : decode cX6_endDay 7 = .ok (.invokeinterface 76 1, 5) := by decide +kernel
theorem dX6_endDay_12 : decode cX6_endDay 12 = .ok (.if_icmp .ge 93, 3) := by decide +kernel
theorem dX6_endDay_15 : decode cX6_endDay 15 = .ok (.aload_n 0, 1) := by decide +kernel
theorem dX6_endDay_16 : decode cX6_endDay 16 = .ok (.getfield 25, 3) := by decide +kernel
theorem dX6_endDay_19 : decode cX6_endDay 19 = .ok (.iload_n 1, 1) := by decide +kernel
theorem dX6_endDay_20 : decode cX6_endDay 20 = .ok (.invokeinterface 157 2, 5) := by decide +kernel
theorem dX6_endDay_25 : decode cX6_endDay 25 = .ok (.checkcast 82, 3) := by decide +kernel
theorem dX6_endDay_28 : decode cX6_endDay 28 = .ok (.astore_n 2, 1) := by decide +kernel
theorem dX6_endDay_29 : decode cX6_endDay 29 = .ok (.aload_n 2, 1) := by decide +kernel
theorem dX6_endDay_30 : decode cX6_endDay 30 = .ok (.getfield 102, 3) := by decide +kernel
theorem dX6_endDay_33 : decode cX6_endDay 33 = .ok (.ifCond .ne 66, 3) := by decide +kernel
theorem dX6_endDay_36 : decode cX6_endDay 36 = .ok (.iconst 0, 1) := by decide +kernel
theorem dX6_endDay_37 : decode cX6_endDay 37 = .ok (.istore_n 3, 1) := by decide +kernel
theorem dX6_endDay_38 : decode cX6_endDay 38 = .ok (.iload_n 3, 1) := by decide +kernel
theorem dX6_endDay_39 : decode cX6_endDay 39 = .ok (.aload_n 2, 1) := by decide +kernel
theorem dX6_endDay_40 : decode cX6_endDay 40 = .ok (.getfield 154, 3) := by decide +kernel
theorem dX6_endDay_43 : decode cX6_endDay 43 = .ok (.invokeinterface 76 1, 5) := by decide +kernel
theorem dX6_endDay_48 : decode cX6_endDay 48 = .ok (.if_icmp .ge 51, 3) := by decide +kernel
theorem dX6_endDay_51 : decode cX6_endDay 51 = .ok (.aload_n 2, 1) := by decide +kernel
theorem dX6_endDay_52 : decode cX6_endDay 52 = .ok (.getfield 154, 3) := by decide +kernel
theorem dX6_endDay_55 : decode cX6_endDay 55 = .ok (.iload_n 3, 1) := by decide +kernel
theorem dX6_endDay_56 : decode cX6_endDay 56 = .ok (.invokeinterface 157 2, 5) := by decide +kernel
theorem dX6_endDay_61 : decode cX6_endDay 61 = .ok (.checkcast 117, 3) := by decide +kernel
theorem dX6_endDay_64 : decode cX6_endDay 64 = .ok (.aload_n 0, 1) := by decide +kernel
theorem dX6_endDay_65 : decode cX6_endDay 65 = .ok (.getfield 46, 3) := by decide +kernel
theorem dX6_endDay_68 : decode cX6_endDay 68 = .ok (.aload_n 0, 1) := by decide +kernel
theorem dX6_endDay_69 : decode cX6_endDay 69 = .ok (.getfield 9, 3) := by decide +kernel
theorem dX6_endDay_72 : decode cX6_endDay 72 = .ok (.aload_n 0, 1) := by decide +kernel
theorem dX6_endDay_73 : decode cX6_endDay 73 = .ok (.getfield 46, 3) := by decide +kernel
theorem dX6_endDay_76 : decode cX6_endDay 76 = .ok (.baload, 1) := by decide +kernel
theorem dX6_endDay_77 : decode cX6_endDay 77 = .ok (.aload_n 0, 1) := by decide +kernel
theorem dX6_endDay_78 : decode cX6_endDay 78 = .ok (.getfield 13, 3) := by decide +kernel
theorem dX6_endDay_81 : decode cX6_endDay 81 = .ok (.aload_n 0, 1) := by decide +kernel
theorem dX6_endDay_82 : decode cX6_endDay 82 = .ok (.getfield 46, 3) := by decide +kernel
theorem dX6_endDay_85 : decode cX6_endDay 85 = .ok (.baload, 1) := by decide +kernel
theorem dX6_endDay_86 : decode cX6_endDay 86 = .ok (.aload_n 0, 1) := by decide +kernel
theorem dX6_endDay_87 : decode cX6_endDay 87 = .ok (.getfield 35, 3) := by decide +kernel
theorem dX6_endDay_90 : decode cX6_endDay 90 = .ok (.invokevirtual 247, 3) := by decide +kernel
theorem dX6_endDay_93 : decode cX6_endDay 93 = .ok (.iinc 3 1, 3) := by decide +kernel
theorem dX6_endDay_96 : decode cX6_endDay 96 = .ok (.goto (-58), 3) := by decide +kernel
theorem dX6_endDay_99 : decode cX6_endDay 99 = .ok (.iinc 1 1, 3) := by decide +kernel
theorem dX6_endDay_102 : decode cX6_endDay 102 = .ok (.goto (-100), 3) := by decide +kernel
theorem dX6_endDay_105 : decode cX6_endDay 105 = .ok (.return_, 1) := by decide +kernel
set_option maxRecDepth 20000 in
theorem ggX6_inAllCups_Jx4a65c_size_8abf5 : GoodIn wsX6_inAllCups wsJx4a65c_size_8abf5 := goodIn_r _ [7, 8, 48, 49, 50] (by decide +kernel) (by decide +kernel)
set_option maxRecDepth 20000 in
theorem gX6_inAllCups_Jx4a65c_size_8abf5_f76Jx4a65c : GoodIn wsX6_inAllCups (va_wsF RX6 76 RJx4a65c ⟨"java/util/List", "size", "()I"⟩ yJx4a65c_size_8abf5 wsJx4a65c_size_8abf5) := goodIn_app (goodIn_of _ (by decide +kernel)) ggX6_inAllCups_Jx4a65c_size_8abf5
set_option maxRecDepth 20000 in
theorem ggX6_inAllCups_Jx4a65c_get_915e3 : GoodIn wsX6_inAllCups wsJx4a65c_get_915e3 := goodIn_r _ [12, 8, 13, 14, 15, 16, 17, 18, 19, 20, 21, 22, 23, 6, 24, 25, 48, 49, 50] (by decide +kernel) (by decide +kernel)
set_option maxRecDepth 20000 in
theorem gX6_inAllCups_Jx4a65c_get_915e3_f157Jx4a65c : GoodIn wsX6_inAllCups (va_wsF RX6 157 RJx4a65c ⟨"java/util/List", "get", "(I)Ljava/lang/Object;"⟩ yJx4a65c_get_915e3 wsJx4a65c_get_915e3) := goodIn_app (goodIn_of _ (by decide +kernel)) ggX6_inAllCups_Jx4a65c_get_915e3
set_option maxRecDepth 20000 in
theorem ggX6_inAllCups_X4_inCups : GoodIn wsX6_inAllCups wsX4_inCups := goodIn_r _ [30, 31, 32, 33, 34, 4, 5, 6, 7, 8, 35, 10, 11, 12, 13, 14, 15, 16, 17, 18, 19, 20, 21, 22, 23, 24, 25, 51, 52, 53, 54, 55, 56, 57, 58, 59, 60, 61, 62, 63, 48, 49, 50] (by decide +kernel) (by decide +kernel)
set_option maxRecDepth 20000 in
theorem gX6_inAllCups_X4_inCups : GoodIn wsX6_inAllCups (wsV RX6 143 RX4 yX4_inCups wsX4_inCups) := goodIn_app (goodIn_of _ (by decide +kernel)) ggX6_inAllCups_X4_inCups
theorem dX6_inAllCups_0 : decode cX6_inAllCups 0 = .ok (.iconst 0, 1) := by decide +kernel
theorem dX6_inAllCups_1 : decode cX6_inAllCups 1 = .ok (.istore_n 1, 1) := by decide +kernel
theorem dX6_inAllCups_2 : decode cX6_inAllCups 2 = .ok (.iconst 0, 1) := by decide +kernel
theorem dX6_inAllCups_3 : decode cX6_inAllCups 3 = .ok (.istore_n 2, 1) := by decide +kernel
theorem dX6_inAllCups_4 : decode cX6_inAllCups 4 = .ok (.iload_n 2, 1) := by decide +kernel
theorem dX6_inAllCups_5 : decode cX6_inAllCups 5 = .ok (.aload_n 0, 1) := by decide +kernel
theorem dX6_inAllCups_6 : decode cX6_inAllCups 6 = .ok (.getfield 25, 3) := by decide +kernel
theorem dX6_inAllCups_9 : decode cX6_inAllCups 9 = .ok (.invokeinterface 76 1, 5) := by decide +kernel
theorem dX6_inAllCups_14 : decode cX6_inAllCups 14 = .ok (.if_icmp .ge 28, 3) := by decide +kernel
theorem dX6_inAllCups_17 : decode cX6_inAllCups 17 = .ok (.iload_n 1, 1) := by decide +kernel
theorem dX6_inAllCups_18 : decode cX6_inAllCups 18 = .ok (.aload_n 0, 1) := by decide +kernel
theorem dX6_inAllCups_19 : decode cX6_inAllCups 19 = .ok (.getfield 25, 3) := by decide +kernel
theorem dX6_inAllCups_22 : decode cX6_inAllCups 22 = .ok (.iload_n 2, 1) := by decide +kernel
theorem dX6_inAllCups_23 : decode cX6_inAllCups 23 = .ok (.invokeinterface 157 2, 5) := by decide +kernel
theorem dX6_inAllCups_28 : decode cX6_inAllCups 28 = .ok (.checkcast 82, 3) := by decide +kernel
theorem dX6_inAllCups_31 : decode cX6_inAllCups 31 = .ok (.invokevirtual 143, 3) := by decide +kernel
theorem dX6_inAllCups_34 : decode cX6_inAllCups 34 = .ok (.iadd, 1) := by decide +kernel
theorem dX6_inAllCups_35 : decode cX6_inAllCups 35 = .ok (.istore_n 1, 1) := by decide +kernel
theorem dX6_inAllCups_36 : decode cX6_inAllCups 36 = .ok (.iinc 2 1, 3) := by decide +kernel
theorem dX6_inAllCups_39 : decode cX6_inAllCups 39 = .ok (.goto (-35), 3) := by decide +kernel
theorem dX6_inAllCups_42 : decode cX6_inAllCups 42 = .ok (.iload_n 1, 1) := by decide +kernel
theorem dX6_inAllCups_43 : decode cX6_inAllCups 43 = .ok (.ireturn, 1) := by decide +kernel
set_option maxRecDepth 20000 in
theorem ggX6_newBarrelsFor_X5_openBarrel : GoodIn wsX6_newBarrelsFor wsX5_openBarrel := goodIn_r _ [5, 6, 7, 8, 9, 10, 11, 12, 13, 14, 15, 16, 17, 18, 23, 24, 25, 26, 27, 28, 29, 30, 31, 32, 33, 34] (by decide +kernel) (by decide +kernel)
set_option maxRecDepth 20000 in
theorem gX6_newBarrelsFor_X5_openBarrel : GoodIn wsX6_newBarrelsFor (wsV RX6 250 RX5 yX5_openBarrel wsX5_openBarrel) := goodIn_app (goodIn_of _ (by decide +kernel)) ggX6_newBarrelsFor_X5_openBarrel
set_option maxRecDepth 20000 in
theorem ggX6_newBarrelsFor_X0_room : GoodIn wsX6_newBarrelsFor wsX0_room := goodIn_r _ [22, 12, 29, 30, 31, 32, 33, 34] (by decide +kernel) (by decide +kernel)
set_option maxRecDepth 20000 in
theorem gX6_newBarrelsFor_X0_room : GoodIn wsX6_newBarrelsFor (wsV RX6 254 RX0 yX0_room wsX0_room) := goodIn_app (goodIn_of _ (by decide +kernel)) ggX6_newBarrelsFor_X0_room
theorem dX6_newBarrelsFor_0 : decode cX6_newBarrelsFor 0 = .ok (.aload_n 0, 1) := by decide +kernel
theorem dX6_newBarrelsFor_1 : decode cX6_newBarrelsFor 1 = .ok (.invokevirtual 250, 3) := by decide +kernel
theorem dX6_newBarrelsFor_4 : decode cX6_newBarrelsFor 4 = .ok (.astore_n 2, 1) := by decide +kernel
theorem dX6_newBarrelsFor_5 : decode cX6_newBarrelsFor 5 = .ok (.aload_n 2, 1) := by decide +kernel
theorem dX6_newBarrelsFor_6 : decode cX6_newBarrelsFor 6 = .ok (.ifnonnull 7, 3) := by decide +kernel
theorem dX6_newBarrelsFor_9 : decode cX6_newBarrelsFor 9 = .ok (.iload_n 1, 1) := by decide +kernel
theorem dX6_newBarrelsFor_10 : decode cX6_newBarrelsFor 10 = .ok (.goto 9, 3) := by decide +kernel
theorem dX6_newBarrelsFor_13 : decode cX6_newBarrelsFor 13 = .ok (.iload_n 1, 1) := by decide +kernel
theorem dX6_newBarrelsFor_14 : decode cX6_newBarrelsFor 14 = .ok (.aload_n 2, 1) := by decide +kernel
theorem dX6_newBarrelsFor_15 : decode cX6_newBarrelsFor 15 = .ok (.invokevirtual 254, 3) := by decide +kernel
theorem dX6_newBarrelsFor_18 : decode cX6_newBarrelsFor 18 = .ok (.isub, 1) := by decide +kernel
theorem dX6_newBarrelsFor_19 : decode cX6_newBarrelsFor 19 = .ok (.istore_n 3, 1) := by decide +kernel
theorem dX6_newBarrelsFor_20 : decode cX6_newBarrelsFor 20 = .ok (.iload_n 3, 1) := by decide +kernel
theorem dX6_newBarrelsFor_21 : decode cX6_newBarrelsFor 21 = .ok (.ifCond .gt 7, 3) := by decide +kernel
theorem dX6_newBarrelsFor_24 : decode cX6_newBarrelsFor 24 = .ok (.iconst 0, 1) := by decide +kernel
theorem dX6_newBarrelsFor_25 : decode cX6_newBarrelsFor 25 = .ok (.goto 14, 3) := by decide +kernel
theorem dX6_newBarrelsFor_28 : decode cX6_newBarrelsFor 28 = .ok (.iload_n 3, 1) := by decide +kernel
theorem dX6_newBarrelsFor_29 : decode cX6_newBarrelsFor 29 = .ok (.sipush 1000, 3) := by decide +kernel
theorem dX6_newBarrelsFor_32 : decode cX6_newBarrelsFor 32 = .ok (.iadd, 1) := by decide +kernel
theorem dX6_newBarrelsFor_33 : decode cX6_newBarrelsFor 33 = .ok (.iconst 1, 1) := by decide +kernel
theorem dX6_newBarrelsFor_34 : decode cX6_newBarrelsFor 34 = .ok (.isub, 1) := by decide +kernel
theorem dX6_newBarrelsFor_35 : decode cX6_newBarrelsFor 35 = .ok (.sipush 1000, 3) := by decide +kernel
theorem dX6_newBarrelsFor_38 : decode cX6_newBarrelsFor 38 = .ok (.idiv, 1) := by decide +kernel
theorem dX6_newBarrelsFor_39 : decode cX6_newBarrelsFor 39 = .ok (.ireturn, 1) := by decide +kernel
set_option maxRecDepth 20000 in
theorem ggX6_pourCup_X6_pour : GoodIn wsX6_pourCup wsX6_pour := goodIn_r _ [6, 7, 8, 9, 10, 11, 12, 13, 14, 15, 16, 17, 18, 19, 20, 21, 22, 23, 24, 25, 26, 27, 28, 29, 30, 31, 32, 33, 34, 35, 36, 37, 38, 39, 40, 41, 42, 43, 44, 45, 46, 47, 48, 49, 50, 51, 52, 53, 54, 55, 56, 57, 58, 59, 60, 61, 62, 63, 64, 65, 66, 67, 68, 69, 70, 71, 72, 73, 74, 75, 76, 77, 78, 79, 80, 81, 82, 83, 84, 85, 86, 87, 88, 89, 90, 91, 92, 93, 94, 95, 96, 97, 98, 99, 100, 101, 102, 103, 104, 105, 119, 120, 121, 122, 123, 124, 125, 126, 127, 128, 129, 130, 131, 132, 133, 134, 135, 136, 137, 138, 139, 140, 141, 142, 143, 144, 145, 146, 147, 148, 149, 150, 151, 152] (by decide +kernel) (by decide +kernel)
set_option maxRecDepth 20000 in
theorem gX6_pourCup_X6_pour : GoodIn wsX6_pourCup (wsV RX6 260 RX6 yX6_pour wsX6_pour) := goodIn_app (goodIn_of _ (by decide +kernel)) ggX6_pourCup_X6_pour
set_option maxRecDepth 20000 in
theorem ggX6_pourCup_X1_clearCup : GoodIn wsX6_pourCup wsX1_clearCup := goodIn_r _ [110, 111, 112, 113, 114, 115, 116, 117, 118] (by decide +kernel) (by decide +kernel)
set_option maxRecDepth 20000 in
theorem gX6_pourCup_X1_clearCup : GoodIn wsX6_pourCup (wsV RX6 264 RX1 yX1_clearCup wsX1_clearCup) := goodIn_app (goodIn_of _ (by decide +kernel)) ggX6_pourCup_X1_clearCup
theorem dX6_pourCup_0 : decode cX6_pourCup 0 = .ok (.iconst 0, 1) := by decide +kernel
theorem dX6_pourCup_1 : decode cX6_pourCup 1 = .ok (.istore_n 3, 1) := by decide +kernel
theorem dX6_pourCup_2 : decode cX6_pourCup 2 = .ok (.iload_n 3, 1) := by decide +kernel
theorem dX6_pourCup_3 : decode cX6_pourCup 3 = .ok (.iconst 4, 1) := by decide +kernel
theorem dX6_pourCup_4 : decode cX6_pourCup 4 = .ok (.if_icmp .ge 21, 3) := by decide +kernel
theorem dX6_pourCup_7 : decode cX6_pourCup 7 = .ok (.aload_n 0, 1) := by decide +kernel
theorem dX6_pourCup_8 : decode cX6_pourCup 8 = .ok (.aload_n 1, 1) := by decide +kernel
theorem dX6_pourCup_9 : decode cX6_pourCup 9 = .ok (.iload_n 3, 1) := by decide +kernel
theorem dX6_pourCup_10 : decode cX6_pourCup 10 = .ok (.aload_n 2, 1) := by decide +kernel
theorem dX6_pourCup_11 : decode cX6_pourCup 11 = .ok (.getfield 257, 3) := by decide +kernel
theorem dX6_pourCup_14 : decode cX6_pourCup 14 = .ok (.iload_n 3, 1) := by decide +kernel
theorem dX6_pourCup_15 : decode cX6_pourCup 15 = .ok (.iaload, 1) := by decide +kernel
theorem dX6_pourCup_16 : decode cX6_pourCup 16 = .ok (.invokevirtual 260, 3) := by decide +kernel
theorem dX6_pourCup_19 : decode cX6_pourCup 19 = .ok (.iinc 3 1, 3) := by decide +kernel
theorem dX6_pourCup_22 : decode cX6_pourCup 22 = .ok (.goto (-20), 3) := by decide +kernel
theorem dX6_pourCup_25 : decode cX6_pourCup 25 = .ok (.aload_n 2, 1) := by decide +kernel
theorem dX6_pourCup_26 : decode cX6_pourCup 26 = .ok (.invokevirtual 264, 3) := by decide +kernel
theorem dX6_pourCup_29 : decode cX6_pourCup 29 = .ok (.return_, 1) := by decide +kernel
set_option maxRecDepth 20000 in
theorem ggX6_pour_X5_openBarrel : GoodIn wsX6_pour wsX5_openBarrel := goodIn_r _ [12, 13, 14, 15, 16, 4, 17, 18, 19, 20, 21, 22, 23, 24, 125, 126, 127, 128, 129, 130, 107, 108, 109, 110, 111, 112] (by decide +kernel) (by decide +kernel)
set_option maxRecDepth 20000 in
theorem gX6_pour_X5_openBarrel : GoodIn wsX6_pour (wsV RX6 250 RX5 yX5_openBarrel wsX5_openBarrel) := goodIn_app (goodIn_of _ (by decide +kernel)) ggX6_pour_X5_openBarrel
set_option maxRecDepth 20000 in
theorem ggX6_pour_X0_init : GoodIn wsX6_pour wsX0_init := goodIn_r _ [27, 28, 29, 30, 18, 31, 32, 33, 23, 24, 34, 107, 108, 109, 110, 111, 112] (by decide +kernel) (by decide +kernel)
set_option maxRecDepth 20000 in
theorem gX6_pour_X0_init : GoodIn wsX6_pour (wsX0_init) := ggX6_pour_X0_init
set_option maxRecDepth 20000 in
theorem ggX6_pour_Jx4a65c_add_9ea2d : GoodIn wsX6_pour wsJx4a65c_add_9ea2d := goodIn_r _ [39, 40, 41, 42, 43, 44, 45, 46, 38, 47, 48, 49, 50, 51, 52, 53, 54, 55, 56, 57, 58, 59, 60, 61, 62, 63, 64, 65, 66, 67, 68, 69, 70, 71, 72, 73, 74, 75, 76, 77, 78, 79, 80, 81, 82, 83, 84, 85, 86, 87, 88, 89, 90, 131, 132, 133] (by decide +kernel) (by decide +kernel)
set_option maxRecDepth 20000 in
theorem gX6_pour_Jx4a65c_add_9ea2d_f91Jx4a65c : GoodIn wsX6_pour (va_wsF RX6 91 RJx4a65c ⟨"java/util/List", "add", "(Ljava/lang/Object;)Z"⟩ yJx4a65c_add_9ea2d wsJx4a65c_add_9ea2d) := goodIn_app (goodIn_of _ (by decide +kernel)) ggX6_pour_Jx4a65c_add_9ea2d
set_option maxRecDepth 20000 in
theorem ggX6_pour_X0_fill : GoodIn wsX6_pour wsX0_fill := goodIn_r _ [94, 95, 85, 59, 86, 18, 32, 33, 96, 97, 98, 4, 99, 107, 108, 109, 110, 111, 112] (by decide +kernel) (by decide +kernel)
set_option maxRecDepth 20000 in
theorem gX6_pour_X0_fill : GoodIn wsX6_pour (wsV RX6 274 RX0 yX0_fill wsX0_fill) := goodIn_app (goodIn_of _ (by decide +kernel)) ggX6_pour_X0_fill
theorem dX6_pour_0 : decode cX6_pour 0 = .ok (.iload_n 3, 1) := by decide +kernel
theorem dX6_pour_1 : decode cX6_pour 1 = .ok (.istore 4, 2) := by decide +kernel
theorem dX6_pour_3 : decode cX6_pour 3 = .ok (.iconst 0, 1) := by decide +kernel
theorem dX6_pour_4 : decode cX6_pour 4 = .ok (.istore 5, 2) := by decide +kernel
theorem dX6_pour_6 : decode cX6_pour 6 = .ok (.iload 4, 2) := by decide +kernel
theorem dX6_pour_8 : decode cX6_pour 8 = .ok (.ifCond .le 82, 3) := by decide +kernel
theorem dX6_pour_11 : decode cX6_pour 11 = .ok (.iload 5, 2) := by decide +kernel
theorem dX6_pour_13 : decode cX6_pour 13 = .ok (.sipush 200, 3) := by decide +kernel
theorem dX6_pour_16 : decode cX6_pour 16 = .ok (.if_icmp .gt 74, 3) := by decide +kernel
theorem dX6_pour_19 : decode cX6_pour 19 = .ok (.aload_n 1, 1) := by decide +kernel
theorem dX6_pour_20 : decode cX6_pour 20 = .ok (.getfield 146, 3) := by decide +kernel
theorem dX6_pour_23 : decode cX6_pour 23 = .ok (.invokevirtual 250, 3) := by decide +kernel
theorem dX6_pour_26 : decode cX6_pour 26 = .ok (.astore 6, 2) := by decide +kernel
theorem dX6_pour_28 : decode cX6_pour 28 = .ok (.aload 6, 2) := by decide +kernel
theorem dX6_pour_30 : decode cX6_pour 30 = .ok (.ifnonnull 37, 3) := by decide +kernel
theorem dX6_pour_33 : decode cX6_pour 33 = .ok (.new 171, 3) := by decide +kernel
theorem dX6_pour_36 : decode cX6_pour 36 = .ok (.dup, 1) := by decide +kernel
theorem dX6_pour_37 : decode cX6_pour 37 = .ok (.aload_n 1, 1) := by decide +kernel
theorem dX6_pour_38 : decode cX6_pour 38 = .ok (.getfield 146, 3) := by decide +kernel
theorem dX6_pour_41 : decode cX6_pour 41 = .ok (.invokespecial 267, 3) := by decide +kernel
theorem dX6_pour_44 : decode cX6_pour 44 = .ok (.astore 6, 2) := by decide +kernel
theorem dX6_pour_46 : decode cX6_pour 46 = .ok (.aload_n 0, 1) := by decide +kernel
theorem dX6_pour_47 : decode cX6_pour 47 = .ok (.getfield 29, 3) := by decide +kernel
theorem dX6_pour_50 : decode cX6_pour 50 = .ok (.aload 6, 2) := by decide +kernel
theorem dX6_pour_52 : decode cX6_pour 52 = .ok (.invokeinterface 91 2, 5) := by decide +kernel
theorem dX6_pour_57 : decode cX6_pour 57 = .ok (.pop, 1) := by decide +kernel
theorem dX6_pour_58 : decode cX6_pour 58 = .ok (.aload_n 1, 1) := by decide +kernel
theorem dX6_pour_59 : decode cX6_pour 59 = .ok (.getfield 146, 3) := by decide +kernel
theorem dX6_pour_62 : decode cX6_pour 62 = .ok (.aload 6, 2) := by decide +kernel
theorem dX6_pour_64 : decode cX6_pour 64 = .ok (.putfield 270, 3) := by decide +kernel
theorem dX6_pour_67 : decode cX6_pour 67 = .ok (.iload 4, 2) := by decide +kernel
theorem dX6_pour_69 : decode cX6_pour 69 = .ok (.aload 6, 2) := by decide +kernel
theorem dX6_pour_71 : decode cX6_pour 71 = .ok (.aload_n 1, 1) := by decide +kernel
theorem dX6_pour_72 : decode cX6_pour 72 = .ok (.getfield 177, 3) := by decide +kernel
theorem dX6_pour_75 : decode cX6_pour 75 = .ok (.iload_n 2, 1) := by decide +kernel
theorem dX6_pour_76 : decode cX6_pour 76 = .ok (.iload 4, 2) := by decide +kernel
theorem dX6_pour_78 : decode cX6_pour 78 = .ok (.invokevirtual 274, 3) := by decide +kernel
theorem dX6_pour_81 : decode cX6_pour 81 = .ok (.isub, 1) := by decide +kernel
theorem dX6_pour_82 : decode cX6_pour 82 = .ok (.istore 4, 2) := by decide +kernel
theorem dX6_pour_84 : decode cX6_pour 84 = .ok (.iinc 5 1, 3) := by decide +kernel
theorem dX6_pour_87 : decode cX6_pour 87 = .ok (.goto (-81), 3) := by decide +kernel
theorem dX6_pour_90 : decode cX6_pour 90 = .ok (.return_, 1) := by decide +kernel
set_option maxRecDepth 20000 in
theorem ggX6_planWalk_J6_bitCount_0f7a4 : GoodIn wsX6_planWalk wsJ6_bitCount_0f7a4 := goodIn_r _ [5, 6, 7, 8] (by decide +kernel) (by decide +kernel)
set_option maxRecDepth 20000 in
theorem gX6_planWalk_J6_bitCount_0f7a4 : GoodIn wsX6_planWalk (va_wsS RX6 278 yJ6_bitCount_0f7a4 wsJ6_bitCount_0f7a4) := goodIn_app (goodIn_of _ (by decide +kernel)) ggX6_planWalk_J6_bitCount_0f7a4
set_option maxRecDepth 20000 in
theorem ggX6_planWalk_X6_isPlace : GoodIn wsX6_planWalk wsX6_isPlace := goodIn_r _ [12] (by decide +kernel) (by decide +kernel)
set_option maxRecDepth 20000 in
theorem gX6_planWalk_X6_isPlace : GoodIn wsX6_planWalk (va_wsS RX6 69 yX6_isPlace wsX6_isPlace) := goodIn_app (goodIn_of _ (by decide +kernel)) ggX6_planWalk_X6_isPlace
set_option maxRecDepth 20000 in
theorem ggX6_planWalk_X2_begin : GoodIn wsX6_planWalk wsX2_begin := goodIn_r _ [17, 18, 19, 153, 154, 155, 156, 157, 158, 159, 160, 161, 162, 163, 164] (by decide +kernel) (by decide +kernel)
set_option maxRecDepth 20000 in
theorem gX6_planWalk_X2_begin : GoodIn wsX6_planWalk (wsV RX6 283 RX2 yX2_begin wsX2_begin) := goodIn_app (goodIn_of _ (by decide +kernel)) ggX6_planWalk_X2_begin
set_option maxRecDepth 20000 in
theorem ggX6_planWalk_X6_treeAt : GoodIn wsX6_planWalk wsX6_treeAt := goodIn_r _ [23, 24, 25, 26, 27, 28, 29, 30, 31, 32, 33, 34, 35, 36, 37, 38, 39, 40, 41, 42, 43, 44, 45, 46, 47, 48, 141, 142, 143, 144, 145, 146, 147, 148, 149, 150, 151, 152, 165, 166, 167] (by decide +kernel) (by decide +kernel)
set_option maxRecDepth 20000 in
theorem gX6_planWalk_X6_treeAt : GoodIn wsX6_planWalk (wsV RX6 98 RX6 yX6_treeAt wsX6_treeAt) := goodIn_app (goodIn_of _ (by decide +kernel)) ggX6_planWalk_X6_treeAt
set_option maxRecDepth 20000 in
theorem ggX6_planWalk_X2_join : GoodIn wsX6_planWalk wsX2_join := goodIn_r _ [52, 18, 53, 54, 55, 56, 57, 58, 59, 60, 61, 153, 154, 155, 156, 157, 158, 159, 160, 161, 162, 163, 164, 168, 169, 170, 171, 172, 173, 174] (by decide +kernel) (by decide +kernel)
set_option maxRecDepth 20000 in
theorem gX6_planWalk_X2_join : GoodIn wsX6_planWalk (wsV RX6 286 RX2 yX2_join wsX2_join) := goodIn_app (goodIn_of _ (by decide +kernel)) ggX6_planWalk_X2_join
set_option maxRecDepth 20000 in
theorem ggX6_planWalk_X6_foreseeTree : GoodIn wsX6_planWalk wsX6_foreseeTree := goodIn_r _ [65, 66, 67, 1, 68, 69, 70, 71, 72, 73, 74, 75, 26, 27, 28, 29, 30, 31, 32, 33, 34, 35, 36, 37, 38, 39, 40, 41, 42, 43, 44, 45, 46, 47, 48, 76, 77, 78, 79, 80, 81, 82, 83, 84, 85, 86, 87, 88, 89, 90, 91, 92, 93, 94, 95, 96, 97, 98, 99, 100, 101, 54, 55, 56, 102, 103, 104, 105, 11, 106, 107, 108, 109, 110, 111, 112, 113, 114, 168, 169, 170, 171, 172, 173, 174, 141, 142, 143, 144, 145, 146, 147, 148, 149, 150, 151, 152, 153, 154, 155, 156, 157, 158, 159, 160, 161, 162, 163, 164, 175, 176, 177, 178, 179, 180, 165, 166, 167, 181, 182, 183] (by decide +kernel) (by decide +kernel)
set_option maxRecDepth 20000 in
theorem gX6_planWalk_X6_foreseeTree : GoodIn wsX6_planWalk (wsV RX6 290 RX6 yX6_foreseeTree wsX6_foreseeTree) := goodIn_app (goodIn_of _ (by decide +kernel)) ggX6_planWalk_X6_foreseeTree
set_option maxRecDepth 20000 in
theorem ggX6_planWalk_X2_visit : GoodIn wsX6_planWalk wsX2_visit := goodIn_r _ [116, 19, 18, 117, 59, 118, 119, 120, 121, 16, 122, 123, 124, 125, 126, 127, 128, 129, 130, 131, 132, 133, 134, 55, 135, 136, 137, 138, 139, 61, 53, 54, 56, 140, 115, 153, 154, 155, 156, 157, 158, 159, 160, 161, 162, 163, 164] (by decide +kernel) (by decide +kernel)
set_option maxRecDepth 20000 in
theorem gX6_planWalk_X2_visit_n294 : GoodIn wsX6_planWalk (wsX2_visit) := ggX6_planWalk_X2_visit
theorem dX6_planWalk_0 : decode cX6_planWalk 0 = .ok (.iload_n 1, 1) := by decide +kernel
theorem dX6_planWalk_1 : decode cX6_planWalk 1 = .ok (.invokestatic 278, 3) := by decide +kernel
theorem dX6_planWalk_4 : decode cX6_planWalk 4 = .ok (.iload_n 2, 1) := by decide +kernel
theorem dX6_planWalk_5 : decode cX6_planWalk 5 = .ok (.invokestatic 278, 3) := by decide +kernel
theorem dX6_planWalk_8 : decode cX6_planWalk 8 = .ok (.iadd, 1) := by decide +kernel
theorem dX6_planWalk_9 : decode cX6_planWalk 9 = .ok (.istore 4, 2) := by decide +kernel
theorem dX6_planWalk_11 : decode cX6_planWalk 11 = .ok (.iload 4, 2) := by decide +kernel
theorem dX6_planWalk_13 : decode cX6_planWalk 13 = .ok (.iconst 1, 1) := by decide +kernel
theorem dX6_planWalk_14 : decode cX6_planWalk 14 = .ok (.if_icmp .lt 17, 3) := by decide +kernel
theorem dX6_planWalk_17 : decode cX6_planWalk 17 = .ok (.iload 4, 2) := by decide +kernel
theorem dX6_planWalk_19 : decode cX6_planWalk 19 = .ok (.bipush 6, 2) := by decide +kernel
theorem dX6_planWalk_21 : decode cX6_planWalk 21 = .ok (.if_icmp .gt 10, 3) := by decide +kernel
theorem dX6_planWalk_24 : decode cX6_planWalk 24 = .ok (.iload_n 3, 1) := by decide +kernel
theorem dX6_planWalk_25 : decode cX6_planWalk 25 = .ok (.invokestatic 69, 3) := by decide +kernel
theorem dX6_planWalk_28 : decode cX6_planWalk 28 = .ok (.ifCond .ne 5, 3) := by decide +kernel
theorem dX6_planWalk_31 : decode cX6_planWalk 31 = .ok (.iconst 0, 1) := by decide +kernel
theorem dX6_planWalk_32 : decode cX6_planWalk 32 = .ok (.ireturn, 1) := by decide +kernel
theorem dX6_planWalk_33 : decode cX6_planWalk 33 = .ok (.iload_n 1, 1) := by decide +kernel
theorem dX6_planWalk_34 : decode cX6_planWalk 34 = .ok (.bipush 30, 2) := by decide +kernel
theorem dX6_planWalk_36 : decode cX6_planWalk 36 = .ok (.iushr, 1) := by decide +kernel
theorem dX6_planWalk_37 : decode cX6_planWalk 37 = .ok (.ifCond .ne 10, 3) := by decide +kernel
theorem dX6_planWalk_40 : decode cX6_planWalk 40 = .ok (.iload_n 2, 1) := by decide +kernel
theorem dX6_planWalk_41 : decode cX6_planWalk 41 = .ok (.bipush 30, 2) := by decide +kernel
theorem dX6_planWalk_43 : decode cX6_planWalk 43 = .ok (.iushr, 1) := by decide +kernel
theorem dX6_planWalk_44 : decode cX6_planWalk 44 = .ok (.ifCond .eq 5, 3) := by decide +kernel
theorem dX6_planWalk_47 : decode cX6_planWalk 47 = .ok (.iconst 0, 1) := by decide +kernel
theorem dX6_planWalk_48 : decode cX6_planWalk 48 = .ok (.ireturn, 1) := by decide +kernel
theorem dX6_planWalk_49 : decode cX6_planWalk 49 = .ok (.aload_n 0, 1) := by decide +kernel
theorem dX6_planWalk_50 : decode cX6_planWalk 50 = .ok (.getfield 42, 3) := by decide +kernel
theorem dX6_planWalk_53 : decode cX6_planWalk 53 = .ok (.invokevirtual 283, 3) := by decide +kernel
theorem dX6_planWalk_56 : decode cX6_planWalk 56 = .ok (.iconst 0, 1) := by decide +kernel
theorem dX6_planWalk_57 : decode cX6_planWalk 57 = .ok (.istore 5, 2) := by decide +kernel
theorem dX6_planWalk_59 : decode cX6_planWalk 59 = .ok (.iload 5, 2) := by decide +kernel
theorem dX6_planWalk_61 : decode cX6_planWalk 61 = .ok (.bipush 60, 2) := by decide +kernel
theorem dX6_planWalk_63 : decode cX6_planWalk 63 = .ok (.if_icmp .ge 69, 3) := by decide +kernel
theorem dX6_planWalk_66 : decode cX6_planWalk 66 = .ok (.iload 5, 2) := by decide +kernel
theorem dX6_planWalk_68 : decode cX6_planWalk 68 = .ok (.bipush 30, 2) := by decide +kernel
theorem dX6_planWalk_70 : decode cX6_planWalk 70 = .ok (.if_icmp .ge 10, 3) := by decide +kernel
theorem dX6_planWalk_73 : decode cX6_planWalk 73 = .ok (.iload_n 1, 1) := by decide +kernel
theorem dX6_planWalk_74 : decode cX6_planWalk 74 = .ok (.iload 5, 2) := by decide +kernel
theorem dX6_planWalk_76 : decode cX6_planWalk 76 = .ok (.iushr, 1) := by decide +kernel
theorem dX6_planWalk_77 : decode cX6_planWalk 77 = .ok (.goto 10, 3) := by decide +kernel
theorem dX6_planWalk_80 : decode cX6_planWalk 80 = .ok (.iload_n 2, 1) := by decide +kernel
theorem dX6_planWalk_81 : decode cX6_planWalk 81 = .ok (.iload 5, 2) := by decide +kernel
theorem dX6_planWalk_83 : decode cX6_planWalk 83 = .ok (.bipush 30, 2) := by decide +kernel
theorem dX6_planWalk_85 : decode cX6_planWalk 85 = .ok (.isub, 1) := by decide +kernel
theorem dX6_planWalk_86 : decode cX6_planWalk 86 = .ok (.iushr, 1) := by decide +kernel
theorem dX6_planWalk_87 : decode cX6_planWalk 87 = .ok (.istore 6, 2) := by decide +kernel
theorem dX6_planWalk_89 : decode cX6_planWalk 89 = .ok (.iload 6, 2) := by decide +kernel
theorem dX6_planWalk_91 : decode cX6_planWalk 91 = .ok (.iconst 1, 1) := by decide +kernel
theorem dX6_planWalk_92 : decode cX6_planWalk 92 = .ok (.iand, 1) := by decide +kernel
theorem dX6_planWalk_93 : decode cX6_planWalk 93 = .ok (.ifCond .eq 33, 3) := by decide +kernel
theorem dX6_planWalk_96 : decode cX6_planWalk 96 = .ok (.aload_n 0, 1) := by decide +kernel
theorem dX6_planWalk_97 : decode cX6_planWalk 97 = .ok (.iload 5, 2) := by decide +kernel
theorem dX6_planWalk_99 : decode cX6_planWalk 99 = .ok (.invokevirtual 98, 3) := by decide +kernel
theorem dX6_planWalk_102 : decode cX6_planWalk 102 = .ok (.astore 7, 2) := by decide +kernel
theorem dX6_planWalk_104 : decode cX6_planWalk 104 = .ok (.aload 7, 2) := by decide +kernel
theorem dX6_planWalk_106 : decode cX6_planWalk 106 = .ok (.ifnonnull 5, 3) := by decide +kernel
theorem dX6_planWalk_109 : decode cX6_planWalk 109 = .ok (.iconst 0, 1) := by decide +kernel
theorem dX6_planWalk_110 : decode cX6_planWalk 110 = .ok (.ireturn, 1) := by decide +kernel
theorem dX6_planWalk_111 : decode cX6_planWalk 111 = .ok (.aload_n 0, 1) := by decide +kernel
theorem dX6_planWalk_112 : decode cX6_planWalk 112 = .ok (.aload 7, 2) := by decide +kernel
theorem dX6_planWalk_114 : decode cX6_planWalk 114 = .ok (.aload_n 0, 1) := by decide +kernel
theorem dX6_planWalk_115 : decode cX6_planWalk 115 = .ok (.getfield 42, 3) := by decide +kernel
theorem dX6_planWalk_118 : decode cX6_planWalk 118 = .ok (.aload 7, 2) := by decide +kernel
theorem dX6_planWalk_120 : decode cX6_planWalk 120 = .ok (.invokevirtual 286, 3) := by decide +kernel
theorem dX6_planWalk_123 : decode cX6_planWalk 123 = .ok (.invokevirtual 290, 3) := by decide +kernel
theorem dX6_planWalk_126 : decode cX6_planWalk 126 = .ok (.iinc 5 1, 3) := by decide +kernel
theorem dX6_planWalk_129 : decode cX6_planWalk 129 = .ok (.goto (-70), 3) := by decide +kernel
theorem dX6_planWalk_132 : decode cX6_planWalk 132 = .ok (.aload_n 0, 1) := by decide +kernel
theorem dX6_planWalk_133 : decode cX6_planWalk 133 = .ok (.getfield 42, 3) := by decide +kernel
theorem dX6_planWalk_136 : decode cX6_planWalk 136 = .ok (.iconst 0, 1) := by decide +kernel
theorem dX6_planWalk_137 : decode cX6_planWalk 137 = .ok (.iload_n 3, 1) := by decide +kernel
theorem dX6_planWalk_138 : decode cX6_planWalk 138 = .ok (.iconst 0, 1) := by decide +kernel
theorem dX6_planWalk_139 : decode cX6_planWalk 139 = .ok (.iconst 0, 1) := by decide +kernel
theorem dX6_planWalk_140 : decode cX6_planWalk 140 = .ok (.invokestatic 294, 3) := by decide +kernel
theorem dX6_planWalk_143 : decode cX6_planWalk 143 = .ok (.iconst 1, 1) := by decide +kernel
theorem dX6_planWalk_144 : decode cX6_planWalk 144 = .ok (.ireturn, 1) := by decide +kernel
set_option maxRecDepth 20000 in
theorem ggX6_foreseeTree_Jx4a65c_size_8abf5 : GoodIn wsX6_foreseeTree wsJx4a65c_size_8abf5 := goodIn_r _ [16, 17, 115, 116, 117] (by decide +kernel) (by decide +kernel)
set_option maxRecDepth 20000 in
theorem gX6_foreseeTree_Jx4a65c_size_8abf5_f76Jx4a65c : GoodIn wsX6_foreseeTree (va_wsF RX6 76 RJx4a65c ⟨"java/util/List", "size", "()I"⟩ yJx4a65c_size_8abf5 wsJx4a65c_size_8abf5) := goodIn_app (goodIn_of _ (by decide +kernel)) ggX6_foreseeTree_Jx4a65c_size_8abf5
set_option maxRecDepth 20000 in
theorem ggX6_foreseeTree_Jx4a65c_get_915e3 : GoodIn wsX6_foreseeTree wsJx4a65c_get_915e3 := goodIn_r _ [21, 17, 22, 23, 24, 25, 26, 27, 28, 29, 30, 31, 32, 15, 33, 34, 115, 116, 117] (by decide +kernel) (by decide +kernel)
set_option maxRecDepth 20000 in
theorem gX6_foreseeTree_Jx4a65c_get_915e3_f157Jx4a65c : GoodIn wsX6_foreseeTree (va_wsF RX6 157 RJx4a65c ⟨"java/util/List", "get", "(I)Ljava/lang/Object;"⟩ yJx4a65c_get_915e3 wsJx4a65c_get_915e3) := goodIn_app (goodIn_of _ (by decide +kernel)) ggX6_foreseeTree_Jx4a65c_get_915e3
set_option maxRecDepth 20000 in
theorem ggX6_foreseeTree_X1_standInFor : GoodIn wsX6_foreseeTree wsX1_standInFor := goodIn_r _ [39, 40, 41, 42, 43, 44, 109, 110, 111, 112, 113, 114] (by decide +kernel) (by decide +kernel)
set_option maxRecDepth 20000 in
theorem gX6_foreseeTree_X1_standInFor : GoodIn wsX6_foreseeTree (wsV RX6 302 RX1 yX1_standInFor wsX1_standInFor) := goodIn_app (goodIn_of _ (by decide +kernel)) ggX6_foreseeTree_X1_standInFor
set_option maxRecDepth 20000 in
theorem ggX6_foreseeTree_X1_endDay : GoodIn wsX6_foreseeTree wsX1_endDay := goodIn_r _ [48, 49, 50, 42, 51, 52, 53, 54, 38, 55, 40, 56, 57, 58, 59, 41, 60, 61, 62, 63, 64, 65, 66, 67, 68, 69, 70, 71, 72, 73, 44, 43, 74, 75, 76, 77, 118, 119, 120, 109, 110, 111, 112, 113, 114] (by decide +kernel) (by decide +kernel)
set_option maxRecDepth 20000 in
theorem gX6_foreseeTree_X1_endDay : GoodIn wsX6_foreseeTree (wsV RX6 247 RX1 yX1_endDay wsX1_endDay) := goodIn_app (goodIn_of _ (by decide +kernel)) ggX6_foreseeTree_X1_endDay
theorem dX6_foreseeTree_0 : decode cX6_foreseeTree 0 = .ok (.aload_n 1, 1) := by decide +kernel
theorem dX6_foreseeTree_1 : decode cX6_foreseeTree 1 = .ok (.getfield 102, 3) := by decide +kernel
theorem dX6_foreseeTree_4 : decode cX6_foreseeTree 4 = .ok (.ifCond .eq 4, 3) := by decide +kernel
theorem dX6_foreseeTree_7 : decode cX6_foreseeTree 7 = .ok (.return_, 1) := by decide +kernel
theorem dX6_foreseeTree_8 : decode cX6_foreseeTree 8 = .ok (.iconst 0, 1) := by decide +kernel
theorem dX6_foreseeTree_9 : decode cX6_foreseeTree 9 = .ok (.istore_n 3, 1) := by decide +kernel
theorem dX6_foreseeTree_10 : decode cX6_foreseeTree 10 = .ok (.iload_n 3, 1) := by decide +kernel
theorem dX6_foreseeTree_11 : decode cX6_foreseeTree 11 = .ok (.aload_n 1, 1) := by decide +kernel
theorem dX6_foreseeTree_12 : decode cX6_foreseeTree 12 = .ok (.getfield 154, 3) := by decide +kernel
theorem dX6_foreseeTree_15 : decode cX6_foreseeTree 15 = .ok (.invokeinterface 76 1, 5) := by decide +kernel
theorem dX6_foreseeTree_20 : decode cX6_foreseeTree 20 = .ok (.if_icmp .ge 125, 3) := by decide +kernel
theorem dX6_foreseeTree_23 : decode cX6_foreseeTree 23 = .ok (.aload_n 0, 1) := by decide +kernel
theorem dX6_foreseeTree_24 : decode cX6_foreseeTree 24 = .ok (.getfield 42, 3) := by decide +kernel
theorem dX6_foreseeTree_27 : decode cX6_foreseeTree 27 = .ok (.getfield 298, 3) := by decide +kernel
theorem dX6_foreseeTree_30 : decode cX6_foreseeTree 30 = .ok (.aload_n 1, 1) := by decide +kernel
theorem dX6_foreseeTree_31 : decode cX6_foreseeTree 31 = .ok (.getfield 154, 3) := by decide +kernel
theorem dX6_foreseeTree_34 : decode cX6_foreseeTree 34 = .ok (.iload_n 3, 1) := by decide +kernel
theorem dX6_foreseeTree_35 : decode cX6_foreseeTree 35 = .ok (.invokeinterface 157 2, 5) := by decide +kernel
theorem dX6_foreseeTree_40 : decode cX6_foreseeTree 40 = .ok (.checkcast 117, 3) := by decide +kernel
theorem dX6_foreseeTree_43 : decode cX6_foreseeTree 43 = .ok (.invokevirtual 302, 3) := by decide +kernel
theorem dX6_foreseeTree_46 : decode cX6_foreseeTree 46 = .ok (.iconst 1, 1) := by decide +kernel
theorem dX6_foreseeTree_47 : decode cX6_foreseeTree 47 = .ok (.istore 4, 2) := by decide +kernel
theorem dX6_foreseeTree_49 : decode cX6_foreseeTree 49 = .ok (.iload 4, 2) := by decide +kernel
theorem dX6_foreseeTree_51 : decode cX6_foreseeTree 51 = .ok (.bipush 19, 2) := by decide +kernel
theorem dX6_foreseeTree_53 : decode cX6_foreseeTree 53 = .ok (.if_icmp .gt 86, 3) := by decide +kernel
theorem dX6_foreseeTree_56 : decode cX6_foreseeTree 56 = .ok (.aload_n 0, 1) := by decide +kernel
theorem dX6_foreseeTree_57 : decode cX6_foreseeTree 57 = .ok (.getfield 46, 3) := by decide +kernel
theorem dX6_foreseeTree_60 : decode cX6_foreseeTree 60 = .ok (.iload 4, 2) := by decide +kernel
theorem dX6_foreseeTree_62 : decode cX6_foreseeTree 62 = .ok (.iadd, 1) := by decide +kernel
theorem dX6_foreseeTree_63 : decode cX6_foreseeTree 63 = .ok (.iconst 1, 1) := by decide +kernel
theorem dX6_foreseeTree_64 : decode cX6_foreseeTree 64 = .ok (.isub, 1) := by decide +kernel
theorem dX6_foreseeTree_65 : decode cX6_foreseeTree 65 = .ok (.istore 5, 2) := by decide +kernel
theorem dX6_foreseeTree_67 : decode cX6_foreseeTree 67 = .ok (.iload 5, 2) := by decide +kernel
theorem dX6_foreseeTree_69 : decode cX6_foreseeTree 69 = .ok (.sipush 3650, 3) := by decide +kernel
theorem dX6_foreseeTree_72 : decode cX6_foreseeTree 72 = .ok (.if_icmp .ge 36, 3) := by decide +kernel
theorem dX6_foreseeTree_75 : decode cX6_foreseeTree 75 = .ok (.aload_n 0, 1) := by decide +kernel
theorem dX6_foreseeTree_76 : decode cX6_foreseeTree 76 = .ok (.getfield 42, 3) := by decide +kernel
theorem dX6_foreseeTree_79 : decode cX6_foreseeTree 79 = .ok (.getfield 298, 3) := by decide +kernel
theorem dX6_foreseeTree_82 : decode cX6_foreseeTree 82 = .ok (.iload 5, 2) := by decide +kernel
theorem dX6_foreseeTree_84 : decode cX6_foreseeTree 84 = .ok (.aload_n 0, 1) := by decide +kernel
theorem dX6_foreseeTree_85 : decode cX6_foreseeTree 85 = .ok (.getfield 9, 3) := by decide +kernel
theorem dX6_foreseeTree_88 : decode cX6_foreseeTree 88 = .ok (.iload 5, 2) := by decide +kernel
theorem dX6_foreseeTree_90 : decode cX6_foreseeTree 90 = .ok (.baload, 1) := by decide +kernel
theorem dX6_foreseeTree_91 : decode cX6_foreseeTree 91 = .ok (.aload_n 0, 1) := by decide +kernel
theorem dX6_foreseeTree_92 : decode cX6_foreseeTree 92 = .ok (.getfield 13, 3) := by decide +kernel
theorem dX6_foreseeTree_95 : decode cX6_foreseeTree 95 = .ok (.iload 5, 2) := by decide +kernel
theorem dX6_foreseeTree_97 : decode cX6_foreseeTree 97 = .ok (.baload, 1) := by decide +kernel
theorem dX6_foreseeTree_98 : decode cX6_foreseeTree 98 = .ok (.aload_n 0, 1) := by decide +kernel
theorem dX6_foreseeTree_99 : decode cX6_foreseeTree 99 = .ok (.getfield 42, 3) := by decide +kernel
theorem dX6_foreseeTree_102 : decode cX6_foreseeTree 102 = .ok (.getfield 306, 3) := by decide +kernel
theorem dX6_foreseeTree_105 : decode cX6_foreseeTree 105 = .ok (.invokevirtual 247, 3) := by decide +kernel
theorem dX6_foreseeTree_108 : decode cX6_foreseeTree 108 = .ok (.aload_n 0, 1) := by decide +kernel
theorem dX6_foreseeTree_109 : decode cX6_foreseeTree 109 = .ok (.getfield 42, 3) := by decide +kernel
theorem dX6_foreseeTree_112 : decode cX6_foreseeTree 112 = .ok (.getfield 309, 3) := by decide +kernel
theorem dX6_foreseeTree_115 : decode cX6_foreseeTree 115 = .ok (.iload_n 2, 1) := by decide +kernel
theorem dX6_foreseeTree_116 : decode cX6_foreseeTree 116 = .ok (.aaload, 1) := by decide +kernel
theorem dX6_foreseeTree_117 : decode cX6_foreseeTree 117 = .ok (.iload 4, 2) := by decide +kernel
theorem dX6_foreseeTree_119 : decode cX6_foreseeTree 119 = .ok (.dup2, 1) := by decide +kernel
theorem dX6_foreseeTree_120 : decode cX6_foreseeTree 120 = .ok (.iaload, 1) := by decide +kernel
theorem dX6_foreseeTree_121 : decode cX6_foreseeTree 121 = .ok (.aload_n 0, 1) := by decide +kernel
theorem dX6_foreseeTree_122 : decode cX6_foreseeTree 122 = .ok (.getfield 42, 3) := by decide +kernel
theorem dX6_foreseeTree_125 : decode cX6_foreseeTree 125 = .ok (.getfield 298, 3) := by decide +kernel
theorem dX6_foreseeTree_128 : decode cX6_foreseeTree 128 = .ok (.getfield 313, 3) := by decide +kernel
theorem dX6_foreseeTree_131 : decode cX6_foreseeTree 131 = .ok (.iadd, 1) := by decide +kernel
theorem dX6_foreseeTree_132 : decode cX6_foreseeTree 132 = .ok (.iastore, 1) := by decide +kernel
theorem dX6_foreseeTree_133 : decode cX6_foreseeTree 133 = .ok (.iinc 4 1, 3) := by decide +kernel
theorem dX6_foreseeTree_136 : decode cX6_foreseeTree 136 = .ok (.goto (-87), 3) := by decide +kernel
theorem dX6_foreseeTree_139 : decode cX6_foreseeTree 139 = .ok (.iinc 3 1, 3) := by decide +kernel
theorem dX6_foreseeTree_142 : decode cX6_foreseeTree 142 = .ok (.goto (-132), 3) := by decide +kernel
theorem dX6_foreseeTree_145 : decode cX6_foreseeTree 145 = .ok (.return_, 1) := by decide +kernel
theorem dX7_init_0 : decode cX7_init 0 = .ok (.aload_n 0, 1) := by decide +kernel
theorem dX7_init_1 : decode cX7_init 1 = .ok (.invokespecial 1, 3) := by decide +kernel
theorem dX7_init_4 : decode cX7_init 4 = .ok (.aload_n 0, 1) := by decide +kernel
theorem dX7_init_5 : decode cX7_init 5 = .ok (.sipush 3650, 3) := by decide +kernel
theorem dX7_init_8 : decode cX7_init 8 = .ok (.newarray .int, 2) := by decide +kernel
theorem dX7_init_10 : decode cX7_init 10 = .ok (.putfield 9, 3) := by decide +kernel
theorem dX7_init_13 : decode cX7_init 13 = .ok (.aload_n 0, 1) := by decide +kernel
theorem dX7_init_14 : decode cX7_init 14 = .ok (.sipush 3650, 3) := by decide +kernel
theorem dX7_init_17 : decode cX7_init 17 = .ok (.newarray .int, 2) := by decide +kernel
theorem dX7_init_19 : decode cX7_init 19 = .ok (.putfield 13, 3) := by decide +kernel
theorem dX7_init_22 : decode cX7_init 22 = .ok (.aload_n 0, 1) := by decide +kernel
theorem dX7_init_23 : decode cX7_init 23 = .ok (.bipush 60, 2) := by decide +kernel
theorem dX7_init_25 : decode cX7_init 25 = .ok (.newarray .int, 2) := by decide +kernel
theorem dX7_init_27 : decode cX7_init 27 = .ok (.putfield 16, 3) := by decide +kernel
theorem dX7_init_30 : decode cX7_init 30 = .ok (.aload_n 0, 1) := by decide +kernel
theorem dX7_init_31 : decode cX7_init 31 = .ok (.bipush 60, 2) := by decide +kernel
theorem dX7_init_33 : decode cX7_init 33 = .ok (.newarray .int, 2) := by decide +kernel
theorem dX7_init_35 : decode cX7_init 35 = .ok (.putfield 19, 3) := by decide +kernel
theorem dX7_init_38 : decode cX7_init 38 = .ok (.aload_n 0, 1) := by decide +kernel
theorem dX7_init_39 : decode cX7_init 39 = .ok (.bipush 60, 2) := by decide +kernel
theorem dX7_init_41 : decode cX7_init 41 = .ok (.newarray .int, 2) := by decide +kernel
theorem dX7_init_43 : decode cX7_init 43 = .ok (.putfield 22, 3) := by decide +kernel
theorem dX7_init_46 : decode cX7_init 46 = .ok (.aload_n 0, 1) := by decide +kernel
theorem dX7_init_47 : decode cX7_init 47 = .ok (.bipush 60, 2) := by decide +kernel
theorem dX7_init_49 : decode cX7_init 49 = .ok (.newarray .int, 2) := by decide +kernel
theorem dX7_init_51 : decode cX7_init 51 = .ok (.putfield 25, 3) := by decide +kernel
theorem dX7_init_54 : decode cX7_init 54 = .ok (.aload_n 0, 1) := by decide +kernel
theorem dX7_init_55 : decode cX7_init 55 = .ok (.bipush 60, 2) := by decide +kernel
theorem dX7_init_57 : decode cX7_init 57 = .ok (.newarray .boolean, 2) := by decide +kernel
theorem dX7_init_59 : decode cX7_init 59 = .ok (.putfield 28, 3) := by decide +kernel
theorem dX7_init_62 : decode cX7_init 62 = .ok (.aload_n 0, 1) := by decide +kernel
theorem dX7_init_63 : decode cX7_init 63 = .ok (.bipush 60, 2) := by decide +kernel
theorem dX7_init_65 : decode cX7_init 65 = .ok (.newarray .int, 2) := by decide +kernel
theorem dX7_init_67 : decode cX7_init 67 = .ok (.putfield 32, 3) := by decide +kernel
theorem dX7_init_70 : decode cX7_init 70 = .ok (.aload_n 0, 1) := by decide +kernel
theorem dX7_init_71 : decode cX7_init 71 = .ok (.bipush 60, 2) := by decide +kernel
theorem dX7_init_73 : decode cX7_init 73 = .ok (.newarray .int, 2) := by decide +kernel
theorem dX7_init_75 : decode cX7_init 75 = .ok (.putfield 35, 3) := by decide +kernel
theorem dX7_init_78 : decode cX7_init 78 = .ok (.aload_n 0, 1) := by decide +kernel
theorem dX7_init_79 : decode cX7_init 79 = .ok (.sipush 180, 3) := by decide +kernel
theorem dX7_init_82 : decode cX7_init 82 = .ok (.newarray .int, 2) := by decide +kernel
theorem dX7_init_84 : decode cX7_init 84 = .ok (.putfield 38, 3) := by decide +kernel
theorem dX7_init_87 : decode cX7_init 87 = .ok (.aload_n 0, 1) := by decide +kernel
theorem dX7_init_88 : decode cX7_init 88 = .ok (.sipush 180, 3) := by decide +kernel
theorem dX7_init_91 : decode cX7_init 91 = .ok (.newarray .int, 2) := by decide +kernel
theorem dX7_init_93 : decode cX7_init 93 = .ok (.putfield 41, 3) := by decide +kernel
theorem dX7_init_96 : decode cX7_init 96 = .ok (.aload_n 0, 1) := by decide +kernel
theorem dX7_init_97 : decode cX7_init 97 = .ok (.sipush 180, 3) := by decide +kernel
theorem dX7_init_100 : decode cX7_init 100 = .ok (.newarray .int, 2) := by decide +kernel
theorem dX7_init_102 : decode cX7_init 102 = .ok (.putfield 44, 3) := by decide +kernel
theorem dX7_init_105 : decode cX7_init 105 = .ok (.aload_n 0, 1) := by decide +kernel
theorem dX7_init_106 : decode cX7_init 106 = .ok (.sipush 720, 3) := by decide +kernel
theorem dX7_init_109 : decode cX7_init 109 = .ok (.newarray .int, 2) := by decide +kernel
theorem dX7_init_111 : decode cX7_init 111 = .ok (.putfield 47, 3) := by decide +kernel
theorem dX7_init_114 : decode cX7_init 114 = .ok (.aload_n 0, 1) := by decide +kernel
theorem dX7_init_115 : decode cX7_init 115 = .ok (.sipush 180, 3) := by decide +kernel
theorem dX7_init_118 : decode cX7_init 118 = .ok (.newarray .int, 2) := by decide +kernel
theorem dX7_init_120 : decode cX7_init 120 = .ok (.putfield 50, 3) := by decide +kernel
theorem dX7_init_123 : decode cX7_init 123 = .ok (.aload_n 0, 1) := by decide +kernel
theorem dX7_init_124 : decode cX7_init 124 = .ok (.sipush 200, 3) := by decide +kernel
theorem dX7_init_127 : decode cX7_init 127 = .ok (.newarray .int, 2) := by decide +kernel
theorem dX7_init_129 : decode cX7_init 129 = .ok (.putfield 53, 3) := by decide +kernel
theorem dX7_init_132 : decode cX7_init 132 = .ok (.aload_n 0, 1) := by decide +kernel
theorem dX7_init_133 : decode cX7_init 133 = .ok (.sipush 800, 3) := by decide +kernel
theorem dX7_init_136 : decode cX7_init 136 = .ok (.newarray .int, 2) := by decide +kernel
theorem dX7_init_138 : decode cX7_init 138 = .ok (.putfield 56, 3) := by decide +kernel
theorem dX7_init_141 : decode cX7_init 141 = .ok (.aload_n 0, 1) := by decide +kernel
theorem dX7_init_142 : decode cX7_init 142 = .ok (.sipush 12000, 3) := by decide +kernel
theorem dX7_init_145 : decode cX7_init 145 = .ok (.newarray .int, 2) := by decide +kernel
theorem dX7_init_147 : decode cX7_init 147 = .ok (.putfield 59, 3) := by decide +kernel
theorem dX7_init_150 : decode cX7_init 150 = .ok (.aload_n 0, 1) := by decide +kernel
theorem dX7_init_151 : decode cX7_init 151 = .ok (.sipush 200, 3) := by decide +kernel
theorem dX7_init_154 : decode cX7_init 154 = .ok (.newarray .boolean, 2) := by decide +kernel
theorem dX7_init_156 : decode cX7_init 156 = .ok (.putfield 62, 3) := by decide +kernel
