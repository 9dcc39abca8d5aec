theorem dX7_init_159 : decode cX7_init 159 = .ok (.aload_n 0, 1) := by decide +kernel
theorem dX7_init_160 : decode cX7_init 160 = .ok (.sipush 200, 3) := by decide +kernel
theorem dX7_init_163 : decode cX7_init 163 = .ok (.newarray .boolean, 2) := by decide +kernel
theorem dX7_init_165 : decode cX7_init 165 = .ok (.putfield 65, 3) := by decide +kernel
theorem dX7_init_168 : decode cX7_init 168 = .ok (.aload_n 0, 1) := by decide +kernel
theorem dX7_init_169 : decode cX7_init 169 = .ok (.bipush 6, 2) := by decide +kernel
theorem dX7_init_171 : decode cX7_init 171 = .ok (.newarray .boolean, 2) := by decide +kernel
theorem dX7_init_173 : decode cX7_init 173 = .ok (.putfield 68, 3) := by decide +kernel
theorem dX7_init_176 : decode cX7_init 176 = .ok (.aload_n 0, 1) := by decide +kernel
theorem dX7_init_177 : decode cX7_init 177 = .ok (.bipush 6, 2) := by decide +kernel
theorem dX7_init_179 : decode cX7_init 179 = .ok (.newarray .int, 2) := by decide +kernel
theorem dX7_init_181 : decode cX7_init 181 = .ok (.putfield 71, 3) := by decide +kernel
theorem dX7_init_184 : decode cX7_init 184 = .ok (.aload_n 0, 1) := by decide +kernel
theorem dX7_init_185 : decode cX7_init 185 = .ok (.bipush 6, 2) := by decide +kernel
theorem dX7_init_187 : decode cX7_init 187 = .ok (.newarray .int, 2) := by decide +kernel
theorem dX7_init_189 : decode cX7_init 189 = .ok (.putfield 74, 3) := by decide +kernel
theorem dX7_init_192 : decode cX7_init 192 = .ok (.aload_n 0, 1) := by decide +kernel
theorem dX7_init_193 : decode cX7_init 193 = .ok (.bipush 6, 2) := by decide +kernel
theorem dX7_init_195 : decode cX7_init 195 = .ok (.newarray .int, 2) := by decide +kernel
theorem dX7_init_197 : decode cX7_init 197 = .ok (.putfield 77, 3) := by decide +kernel
theorem dX7_init_200 : decode cX7_init 200 = .ok (.aload_n 0, 1) := by decide +kernel
theorem dX7_init_201 : decode cX7_init 201 = .ok (.bipush 6, 2) := by decide +kernel
theorem dX7_init_203 : decode cX7_init 203 = .ok (.newarray .int, 2) := by decide +kernel
theorem dX7_init_205 : decode cX7_init 205 = .ok (.putfield 80, 3) := by decide +kernel
theorem dX7_init_208 : decode cX7_init 208 = .ok (.aload_n 0, 1) := by decide +kernel
theorem dX7_init_209 : decode cX7_init 209 = .ok (.sipush 144, 3) := by decide +kernel
theorem dX7_init_212 : decode cX7_init 212 = .ok (.newarray .int, 2) := by decide +kernel
theorem dX7_init_214 : decode cX7_init 214 = .ok (.putfield 83, 3) := by decide +kernel
theorem dX7_init_217 : decode cX7_init 217 = .ok (.aload_n 0, 1) := by decide +kernel
theorem dX7_init_218 : decode cX7_init 218 = .ok (.bipush 6, 2) := by decide +kernel
theorem dX7_init_220 : decode cX7_init 220 = .ok (.newarray .int, 2) := by decide +kernel
theorem dX7_init_222 : decode cX7_init 222 = .ok (.putfield 86, 3) := by decide +kernel
theorem dX7_init_225 : decode cX7_init 225 = .ok (.aload_n 0, 1) := by decide +kernel
theorem dX7_init_226 : decode cX7_init 226 = .ok (.bipush 6, 2) := by decide +kernel
theorem dX7_init_228 : decode cX7_init 228 = .ok (.newarray .int, 2) := by decide +kernel
theorem dX7_init_230 : decode cX7_init 230 = .ok (.putfield 89, 3) := by decide +kernel
theorem dX7_init_233 : decode cX7_init 233 = .ok (.iconst 0, 1) := by decide +kernel
theorem dX7_init_234 : decode cX7_init 234 = .ok (.istore_n 1, 1) := by decide +kernel
theorem dX7_init_235 : decode cX7_init 235 = .ok (.iload_n 1, 1) := by decide +kernel
theorem dX7_init_236 : decode cX7_init 236 = .ok (.sipush 3650, 3) := by decide +kernel
theorem dX7_init_239 : decode cX7_init 239 = .ok (.if_icmp .ge 16, 3) := by decide +kernel
theorem dX7_init_242 : decode cX7_init 242 = .ok (.aload_n 0, 1) := by decide +kernel
theorem dX7_init_243 : decode cX7_init 243 = .ok (.getfield 9, 3) := by decide +kernel
theorem dX7_init_246 : decode cX7_init 246 = .ok (.iload_n 1, 1) := by decide +kernel
theorem dX7_init_247 : decode cX7_init 247 = .ok (.iconst 5, 1) := by decide +kernel
theorem dX7_init_248 : decode cX7_init 248 = .ok (.iastore, 1) := by decide +kernel
theorem dX7_init_249 : decode cX7_init 249 = .ok (.iinc 1 1, 3) := by decide +kernel
theorem dX7_init_252 : decode cX7_init 252 = .ok (.goto (-17), 3) := by decide +kernel
theorem dX7_init_255 : decode cX7_init 255 = .ok (.return_, 1) := by decide +kernel
theorem dX7_in_0 : decode cX7_in 0 = .ok (.iload_n 0, 1) := by decide +kernel
theorem dX7_in_1 : decode cX7_in 1 = .ok (.iload_n 1, 1) := by decide +kernel
theorem dX7_in_2 : decode cX7_in 2 = .ok (.if_icmp .lt 12, 3) := by decide +kernel
theorem dX7_in_5 : decode cX7_in 5 = .ok (.iload_n 0, 1) := by decide +kernel
theorem dX7_in_6 : decode cX7_in 6 = .ok (.iload_n 2, 1) := by decide +kernel
theorem dX7_in_7 : decode cX7_in 7 = .ok (.if_icmp .gt 7, 3) := by decide +kernel
theorem dX7_in_10 : decode cX7_in 10 = .ok (.iconst 1, 1) := by decide +kernel
theorem dX7_in_11 : decode cX7_in 11 = .ok (.goto 4, 3) := by decide +kernel
theorem dX7_in_14 : decode cX7_in 14 = .ok (.iconst 0, 1) := by decide +kernel
theorem dX7_in_15 : decode cX7_in 15 = .ok (.ireturn, 1) := by decide +kernel
set_option maxRecDepth 20000 in
theorem ggX7_isTree_X7_in : GoodIn wsX7_isTree wsX7_in := goodIn_r _ [5] (by decide +kernel) (by decide +kernel)
set_option maxRecDepth 20000 in
theorem gX7_isTree_X7_in : GoodIn wsX7_isTree (va_wsS RX7 96 yX7_in wsX7_in) := goodIn_app (goodIn_of _ (by decide +kernel)) ggX7_isTree_X7_in
theorem dX7_isTree_0 : decode cX7_isTree 0 = .ok (.iload_n 1, 1) := by decide +kernel
theorem dX7_isTree_1 : decode cX7_isTree 1 = .ok (.iconst 0, 1) := by decide +kernel
theorem dX7_isTree_2 : decode cX7_isTree 2 = .ok (.aload_n 0, 1) := by decide +kernel
theorem dX7_isTree_3 : decode cX7_isTree 3 = .ok (.getfield 92, 3) := by decide +kernel
theorem dX7_isTree_6 : decode cX7_isTree 6 = .ok (.iconst 1, 1) := by decide +kernel
theorem dX7_isTree_7 : decode cX7_isTree 7 = .ok (.isub, 1) := by decide +kernel
theorem dX7_isTree_8 : decode cX7_isTree 8 = .ok (.invokestatic 96, 3) := by decide +kernel
theorem dX7_isTree_11 : decode cX7_isTree 11 = .ok (.ireturn, 1) := by decide +kernel
set_option maxRecDepth 20000 in
theorem ggX7_tree_X7_in : GoodIn wsX7_tree wsX7_in := goodIn_r _ [9] (by decide +kernel) (by decide +kernel)
set_option maxRecDepth 20000 in
theorem gX7_tree_X7_in : GoodIn wsX7_tree (va_wsS RX7 96 yX7_in wsX7_in) := goodIn_app (goodIn_of _ (by decide +kernel)) ggX7_tree_X7_in
theorem dX7_tree_0 : decode cX7_tree 0 = .ok (.iload_n 1, 1) := by decide +kernel
theorem dX7_tree_1 : decode cX7_tree 1 = .ok (.iconst 0, 1) := by decide +kernel
theorem dX7_tree_2 : decode cX7_tree 2 = .ok (.iconst 5, 1) := by decide +kernel
theorem dX7_tree_3 : decode cX7_tree 3 = .ok (.invokestatic 96, 3) := by decide +kernel
theorem dX7_tree_6 : decode cX7_tree 6 = .ok (.ifCond .eq 35, 3) := by decide +kernel
theorem dX7_tree_9 : decode cX7_tree 9 = .ok (.iload_n 2, 1) := by decide +kernel
theorem dX7_tree_10 : decode cX7_tree 10 = .ok (.iconst 0, 1) := by decide +kernel
theorem dX7_tree_11 : decode cX7_tree 11 = .ok (.sipush 9999, 3) := by decide +kernel
theorem dX7_tree_14 : decode cX7_tree 14 = .ok (.invokestatic 96, 3) := by decide +kernel
theorem dX7_tree_17 : decode cX7_tree 17 = .ok (.ifCond .eq 24, 3) := by decide +kernel
theorem dX7_tree_20 : decode cX7_tree 20 = .ok (.iload_n 3, 1) := by decide +kernel
theorem dX7_tree_21 : decode cX7_tree 21 = .ok (.bipush 20, 2) := by decide +kernel
theorem dX7_tree_23 : decode cX7_tree 23 = .ok (.sipush 400, 3) := by decide +kernel
theorem dX7_tree_26 : decode cX7_tree 26 = .ok (.invokestatic 96, 3) := by decide +kernel
theorem dX7_tree_29 : decode cX7_tree 29 = .ok (.ifCond .eq 12, 3) := by decide +kernel
theorem dX7_tree_32 : decode cX7_tree 32 = .ok (.aload_n 0, 1) := by decide +kernel
theorem dX7_tree_33 : decode cX7_tree 33 = .ok (.getfield 92, 3) := by decide +kernel
theorem dX7_tree_36 : decode cX7_tree 36 = .ok (.bipush 60, 2) := by decide +kernel
theorem dX7_tree_38 : decode cX7_tree 38 = .ok (.if_icmp .ne 5, 3) := by decide +kernel
theorem dX7_tree_41 : decode cX7_tree 41 = .ok (.iconst (-1), 1) := by decide +kernel
theorem dX7_tree_42 : decode cX7_tree 42 = .ok (.ireturn, 1) := by decide +kernel
theorem dX7_tree_43 : decode cX7_tree 43 = .ok (.aload_n 0, 1) := by decide +kernel
theorem dX7_tree_44 : decode cX7_tree 44 = .ok (.getfield 16, 3) := by decide +kernel
theorem dX7_tree_47 : decode cX7_tree 47 = .ok (.aload_n 0, 1) := by decide +kernel
theorem dX7_tree_48 : decode cX7_tree 48 = .ok (.getfield 92, 3) := by decide +kernel
theorem dX7_tree_51 : decode cX7_tree 51 = .ok (.iload_n 1, 1) := by decide +kernel
theorem dX7_tree_52 : decode cX7_tree 52 = .ok (.iastore, 1) := by decide +kernel
theorem dX7_tree_53 : decode cX7_tree 53 = .ok (.aload_n 0, 1) := by decide +kernel
theorem dX7_tree_54 : decode cX7_tree 54 = .ok (.getfield 19, 3) := by decide +kernel
theorem dX7_tree_57 : decode cX7_tree 57 = .ok (.aload_n 0, 1) := by decide +kernel
theorem dX7_tree_58 : decode cX7_tree 58 = .ok (.getfield 92, 3) := by decide +kernel
theorem dX7_tree_61 : decode cX7_tree 61 = .ok (.iload_n 2, 1) := by decide +kernel
theorem dX7_tree_62 : decode cX7_tree 62 = .ok (.bipush 100, 2) := by decide +kernel
theorem dX7_tree_64 : decode cX7_tree 64 = .ok (.idiv, 1) := by decide +kernel
theorem dX7_tree_65 : decode cX7_tree 65 = .ok (.iastore, 1) := by decide +kernel
theorem dX7_tree_66 : decode cX7_tree 66 = .ok (.aload_n 0, 1) := by decide +kernel
theorem dX7_tree_67 : decode cX7_tree 67 = .ok (.getfield 22, 3) := by decide +kernel
theorem dX7_tree_70 : decode cX7_tree 70 = .ok (.aload_n 0, 1) := by decide +kernel
theorem dX7_tree_71 : decode cX7_tree 71 = .ok (.getfield 92, 3) := by decide +kernel
theorem dX7_tree_74 : decode cX7_tree 74 = .ok (.iload_n 2, 1) := by decide +kernel
theorem dX7_tree_75 : decode cX7_tree 75 = .ok (.bipush 100, 2) := by decide +kernel
theorem dX7_tree_77 : decode cX7_tree 77 = .ok (.irem, 1) := by decide +kernel
theorem dX7_tree_78 : decode cX7_tree 78 = .ok (.iastore, 1) := by decide +kernel
theorem dX7_tree_79 : decode cX7_tree 79 = .ok (.aload_n 0, 1) := by decide +kernel
theorem dX7_tree_80 : decode cX7_tree 80 = .ok (.getfield 25, 3) := by decide +kernel
theorem dX7_tree_83 : decode cX7_tree 83 = .ok (.aload_n 0, 1) := by decide +kernel
theorem dX7_tree_84 : decode cX7_tree 84 = .ok (.getfield 92, 3) := by decide +kernel
theorem dX7_tree_87 : decode cX7_tree 87 = .ok (.iload_n 3, 1) := by decide +kernel
theorem dX7_tree_88 : decode cX7_tree 88 = .ok (.iastore, 1) := by decide +kernel
theorem dX7_tree_89 : decode cX7_tree 89 = .ok (.aload_n 0, 1) := by decide +kernel
theorem dX7_tree_90 : decode cX7_tree 90 = .ok (.dup, 1) := by decide +kernel
theorem dX7_tree_91 : decode cX7_tree 91 = .ok (.getfield 92, 3) := by decide +kernel
theorem dX7_tree_94 : decode cX7_tree 94 = .ok (.iconst 1, 1) := by decide +kernel
theorem dX7_tree_95 : decode cX7_tree 95 = .ok (.iadd, 1) := by decide +kernel
theorem dX7_tree_96 : decode cX7_tree 96 = .ok (.putfield 92, 3) := by decide +kernel
theorem dX7_tree_99 : decode cX7_tree 99 = .ok (.aload_n 0, 1) := by decide +kernel
theorem dX7_tree_100 : decode cX7_tree 100 = .ok (.getfield 92, 3) := by decide +kernel
theorem dX7_tree_103 : decode cX7_tree 103 = .ok (.iconst 1, 1) := by decide +kernel
theorem dX7_tree_104 : decode cX7_tree 104 = .ok (.isub, 1) := by decide +kernel
theorem dX7_tree_105 : decode cX7_tree 105 = .ok (.ireturn, 1) := by decide +kernel
set_option maxRecDepth 20000 in
theorem ggX7_bears_X7_in : GoodIn wsX7_bears wsX7_in := goodIn_r _ [4] (by decide +kernel) (by decide +kernel)
set_option maxRecDepth 20000 in
theorem gX7_bears_X7_in : GoodIn wsX7_bears (va_wsS RX7 96 yX7_in wsX7_in) := goodIn_app (goodIn_of _ (by decide +kernel)) ggX7_bears_X7_in
theorem dX7_bears_0 : decode cX7_bears 0 = .ok (.iload_n 1, 1) := by decide +kernel
theorem dX7_bears_1 : decode cX7_bears 1 = .ok (.bipush 20, 2) := by decide +kernel
theorem dX7_bears_3 : decode cX7_bears 3 = .ok (.sipush 400, 3) := by decide +kernel
theorem dX7_bears_6 : decode cX7_bears 6 = .ok (.invokestatic 96, 3) := by decide +kernel
theorem dX7_bears_9 : decode cX7_bears 9 = .ok (.ifCond .ne 5, 3) := by decide +kernel
theorem dX7_bears_12 : decode cX7_bears 12 = .ok (.iconst (-1), 1) := by decide +kernel
theorem dX7_bears_13 : decode cX7_bears 13 = .ok (.ireturn, 1) := by decide +kernel
theorem dX7_bears_14 : decode cX7_bears 14 = .ok (.iload_n 1, 1) := by decide +kernel
theorem dX7_bears_15 : decode cX7_bears 15 = .ok (.bipush 80, 2) := by decide +kernel
theorem dX7_bears_17 : decode cX7_bears 17 = .ok (.if_icmp .ge 7, 3) := by decide +kernel
theorem dX7_bears_20 : decode cX7_bears 20 = .ok (.iconst 0, 1) := by decide +kernel
theorem dX7_bears_21 : decode cX7_bears 21 = .ok (.goto 26, 3) := by decide +kernel
theorem dX7_bears_24 : decode cX7_bears 24 = .ok (.iload_n 1, 1) := by decide +kernel
theorem dX7_bears_25 : decode cX7_bears 25 = .ok (.sipush 150, 3) := by decide +kernel
theorem dX7_bears_28 : decode cX7_bears 28 = .ok (.if_icmp .ge 7, 3) := by decide +kernel
theorem dX7_bears_31 : decode cX7_bears 31 = .ok (.iconst 1, 1) := by decide +kernel
theorem dX7_bears_32 : decode cX7_bears 32 = .ok (.goto 15, 3) := by decide +kernel
theorem dX7_bears_35 : decode cX7_bears 35 = .ok (.iload_n 1, 1) := by decide +kernel
theorem dX7_bears_36 : decode cX7_bears 36 = .ok (.sipush 220, 3) := by decide +kernel
theorem dX7_bears_39 : decode cX7_bears 39 = .ok (.if_icmp .ge 7, 3) := by decide +kernel
theorem dX7_bears_42 : decode cX7_bears 42 = .ok (.iconst 2, 1) := by decide +kernel
theorem dX7_bears_43 : decode cX7_bears 43 = .ok (.goto 4, 3) := by decide +kernel
theorem dX7_bears_46 : decode cX7_bears 46 = .ok (.iconst 3, 1) := by decide +kernel
theorem dX7_bears_47 : decode cX7_bears 47 = .ok (.ireturn, 1) := by decide +kernel
set_option maxRecDepth 20000 in
theorem ggX7_weather_X7_in : GoodIn wsX7_weather wsX7_in := goodIn_r _ [7] (by decide +kernel) (by decide +kernel)
set_option maxRecDepth 20000 in
theorem gX7_weather_X7_in : GoodIn wsX7_weather (va_wsS RX7 96 yX7_in wsX7_in) := goodIn_app (goodIn_of _ (by decide +kernel)) ggX7_weather_X7_in
theorem dX7_weather_0 : decode cX7_weather 0 = .ok (.iload_n 1, 1) := by decide +kernel
theorem dX7_weather_1 : decode cX7_weather 1 = .ok (.aload_n 0, 1) := by decide +kernel
theorem dX7_weather_2 : decode cX7_weather 2 = .ok (.getfield 100, 3) := by decide +kernel
theorem dX7_weather_5 : decode cX7_weather 5 = .ok (.sipush 3649, 3) := by decide +kernel
theorem dX7_weather_8 : decode cX7_weather 8 = .ok (.invokestatic 96, 3) := by decide +kernel
theorem dX7_weather_11 : decode cX7_weather 11 = .ok (.ifCond .eq 35, 3) := by decide +kernel
theorem dX7_weather_14 : decode cX7_weather 14 = .ok (.iload_n 2, 1) := by decide +kernel
theorem dX7_weather_15 : decode cX7_weather 15 = .ok (.iload_n 1, 1) := by decide +kernel
theorem dX7_weather_16 : decode cX7_weather 16 = .ok (.sipush 3649, 3) := by decide +kernel
theorem dX7_weather_19 : decode cX7_weather 19 = .ok (.invokestatic 96, 3) := by decide +kernel
theorem dX7_weather_22 : decode cX7_weather 22 = .ok (.ifCond .eq 24, 3) := by decide +kernel
theorem dX7_weather_25 : decode cX7_weather 25 = .ok (.iload_n 3, 1) := by decide +kernel
theorem dX7_weather_26 : decode cX7_weather 26 = .ok (.iconst 0, 1) := by decide +kernel
theorem dX7_weather_27 : decode cX7_weather 27 = .ok (.bipush 9, 2) := by decide +kernel
theorem dX7_weather_29 : decode cX7_weather 29 = .ok (.invokestatic 96, 3) := by decide +kernel
theorem dX7_weather_32 : decode cX7_weather 32 = .ok (.ifCond .eq 14, 3) := by decide +kernel
theorem dX7_weather_35 : decode cX7_weather 35 = .ok (.iload 4, 2) := by decide +kernel
theorem dX7_weather_37 : decode cX7_weather 37 = .ok (.iconst 0, 1) := by decide +kernel
theorem dX7_weather_38 : decode cX7_weather 38 = .ok (.bipush 9, 2) := by decide +kernel
theorem dX7_weather_40 : decode cX7_weather 40 = .ok (.invokestatic 96, 3) := by decide +kernel
theorem dX7_weather_43 : decode cX7_weather 43 = .ok (.ifCond .ne 5, 3) := by decide +kernel
theorem dX7_weather_46 : decode cX7_weather 46 = .ok (.iconst 0, 1) := by decide +kernel
theorem dX7_weather_47 : decode cX7_weather 47 = .ok (.ireturn, 1) := by decide +kernel
theorem dX7_weather_48 : decode cX7_weather 48 = .ok (.iload_n 1, 1) := by decide +kernel
theorem dX7_weather_49 : decode cX7_weather 49 = .ok (.istore 5, 2) := by decide +kernel
theorem dX7_weather_51 : decode cX7_weather 51 = .ok (.iload 5, 2) := by decide +kernel
theorem dX7_weather_53 : decode cX7_weather 53 = .ok (.iload_n 2, 1) := by decide +kernel
theorem dX7_weather_54 : decode cX7_weather 54 = .ok (.if_icmp .gt 26, 3) := by decide +kernel
theorem dX7_weather_57 : decode cX7_weather 57 = .ok (.aload_n 0, 1) := by decide +kernel
theorem dX7_weather_58 : decode cX7_weather 58 = .ok (.getfield 9, 3) := by decide +kernel
theorem dX7_weather_61 : decode cX7_weather 61 = .ok (.iload 5, 2) := by decide +kernel
theorem dX7_weather_63 : decode cX7_weather 63 = .ok (.iload_n 3, 1) := by decide +kernel
theorem dX7_weather_64 : decode cX7_weather 64 = .ok (.iastore, 1) := by decide +kernel
theorem dX7_weather_65 : decode cX7_weather 65 = .ok (.aload_n 0, 1) := by decide +kernel
theorem dX7_weather_66 : decode cX7_weather 66 = .ok (.getfield 13, 3) := by decide +kernel
theorem dX7_weather_69 : decode cX7_weather 69 = .ok (.iload 5, 2) := by decide +kernel
theorem dX7_weather_71 : decode cX7_weather 71 = .ok (.iload 4, 2) := by decide +kernel
theorem dX7_weather_73 : decode cX7_weather 73 = .ok (.iastore, 1) := by decide +kernel
theorem dX7_weather_74 : decode cX7_weather 74 = .ok (.iinc 5 1, 3) := by decide +kernel
theorem dX7_weather_77 : decode cX7_weather 77 = .ok (.goto (-26), 3) := by decide +kernel
theorem dX7_weather_80 : decode cX7_weather 80 = .ok (.iconst 1, 1) := by decide +kernel
theorem dX7_weather_81 : decode cX7_weather 81 = .ok (.ireturn, 1) := by decide +kernel
set_option maxRecDepth 20000 in
theorem ggX7_cut_X7_isTree : GoodIn wsX7_cut wsX7_isTree := goodIn_r _ [13, 14, 15, 16, 12, 17, 26, 27, 28, 29, 30, 31, 32, 33, 34, 35, 36, 37, 38, 39, 40, 41, 42, 43, 44, 45, 46, 47, 48, 49, 50, 51, 52, 53, 54, 55, 56, 57, 58, 59, 60, 61, 62, 63, 64] (by decide +kernel) (by decide +kernel)
set_option maxRecDepth 20000 in
theorem gX7_cut_X7_isTree : GoodIn wsX7_cut (wsV RX7 103 RX7 yX7_isTree wsX7_isTree) := goodIn_app (goodIn_of _ (by decide +kernel)) ggX7_cut_X7_isTree
set_option maxRecDepth 20000 in
theorem ggX7_cut_X7_rests : GoodIn wsX7_cut wsX7_rests := goodIn_r _ [21, 4, 8, 9, 10, 11, 12, 13, 14, 15, 16, 17, 26, 27, 28, 29, 30, 31, 32, 33, 34, 35, 36, 37, 38, 39, 40, 41, 42, 43, 44, 45, 46, 47, 48, 49, 50, 51, 52, 53, 54, 55, 56, 57, 58, 59, 60, 61, 62, 63, 64] (by decide +kernel) (by decide +kernel)
set_option maxRecDepth 20000 in
theorem gX7_cut_X7_rests : GoodIn wsX7_cut (wsV RX7 107 RX7 yX7_rests wsX7_rests) := goodIn_app (goodIn_of _ (by decide +kernel)) ggX7_cut_X7_rests
set_option maxRecDepth 20000 in
theorem ggX7_cut_X7_in : GoodIn wsX7_cut wsX7_in := goodIn_r _ [17] (by decide +kernel) (by decide +kernel)
set_option maxRecDepth 20000 in
theorem gX7_cut_X7_in : GoodIn wsX7_cut (va_wsS RX7 96 yX7_in wsX7_in) := goodIn_app (goodIn_of _ (by decide +kernel)) ggX7_cut_X7_in
set_option maxRecDepth 20000 in
theorem ggX7_cut_X7_bears : GoodIn wsX7_cut wsX7_bears := goodIn_r _ [25, 15, 16, 12, 17] (by decide +kernel) (by decide +kernel)
set_option maxRecDepth 20000 in
theorem gX7_cut_X7_bears : GoodIn wsX7_cut (wsV RX7 110 RX7 yX7_bears wsX7_bears) := goodIn_app (goodIn_of _ (by decide +kernel)) ggX7_cut_X7_bears
theorem dX7_cut_0 : decode cX7_cut 0 = .ok (.aload_n 0, 1) := by decide +kernel
theorem dX7_cut_1 : decode cX7_cut 1 = .ok (.iload_n 1, 1) := by decide +kernel
theorem dX7_cut_2 : decode cX7_cut 2 = .ok (.invokevirtual 103, 3) := by decide +kernel
theorem dX7_cut_5 : decode cX7_cut 5 = .ok (.ifCond .eq 48, 3) := by decide +kernel
theorem dX7_cut_8 : decode cX7_cut 8 = .ok (.aload_n 0, 1) := by decide +kernel
theorem dX7_cut_9 : decode cX7_cut 9 = .ok (.getfield 28, 3) := by decide +kernel
theorem dX7_cut_12 : decode cX7_cut 12 = .ok (.iload_n 1, 1) := by decide +kernel
theorem dX7_cut_13 : decode cX7_cut 13 = .ok (.baload, 1) := by decide +kernel
theorem dX7_cut_14 : decode cX7_cut 14 = .ok (.ifCond .ne 39, 3) := by decide +kernel
theorem dX7_cut_17 : decode cX7_cut 17 = .ok (.aload_n 0, 1) := by decide +kernel
theorem dX7_cut_18 : decode cX7_cut 18 = .ok (.iload_n 1, 1) := by decide +kernel
theorem dX7_cut_19 : decode cX7_cut 19 = .ok (.invokevirtual 107, 3) := by decide +kernel
theorem dX7_cut_22 : decode cX7_cut 22 = .ok (.ifCond .ne 31, 3) := by decide +kernel
theorem dX7_cut_25 : decode cX7_cut 25 = .ok (.iload_n 2, 1) := by decide +kernel
theorem dX7_cut_26 : decode cX7_cut 26 = .ok (.iconst 0, 1) := by decide +kernel
theorem dX7_cut_27 : decode cX7_cut 27 = .ok (.aload_n 0, 1) := by decide +kernel
theorem dX7_cut_28 : decode cX7_cut 28 = .ok (.getfield 32, 3) := by decide +kernel
theorem dX7_cut_31 : decode cX7_cut 31 = .ok (.iload_n 1, 1) := by decide +kernel
theorem dX7_cut_32 : decode cX7_cut 32 = .ok (.iaload, 1) := by decide +kernel
theorem dX7_cut_33 : decode cX7_cut 33 = .ok (.invokestatic 96, 3) := by decide +kernel
theorem dX7_cut_36 : decode cX7_cut 36 = .ok (.ifCond .eq 17, 3) := by decide +kernel
theorem dX7_cut_39 : decode cX7_cut 39 = .ok (.iload_n 2, 1) := by decide +kernel
theorem dX7_cut_40 : decode cX7_cut 40 = .ok (.aload_n 0, 1) := by decide +kernel
theorem dX7_cut_41 : decode cX7_cut 41 = .ok (.aload_n 0, 1) := by decide +kernel
theorem dX7_cut_42 : decode cX7_cut 42 = .ok (.getfield 25, 3) := by decide +kernel
theorem dX7_cut_45 : decode cX7_cut 45 = .ok (.iload_n 1, 1) := by decide +kernel
theorem dX7_cut_46 : decode cX7_cut 46 = .ok (.iaload, 1) := by decide +kernel
theorem dX7_cut_47 : decode cX7_cut 47 = .ok (.invokevirtual 110, 3) := by decide +kernel
theorem dX7_cut_50 : decode cX7_cut 50 = .ok (.if_icmp .lt 5, 3) := by decide +kernel
theorem dX7_cut_53 : decode cX7_cut 53 = .ok (.iconst (-1), 1) := by decide +kernel
theorem dX7_cut_54 : decode cX7_cut 54 = .ok (.ireturn, 1) := by decide +kernel
theorem dX7_cut_55 : decode cX7_cut 55 = .ok (.iconst 3, 1) := by decide +kernel
theorem dX7_cut_56 : decode cX7_cut 56 = .ok (.iload_n 1, 1) := by decide +kernel
theorem dX7_cut_57 : decode cX7_cut 57 = .ok (.imul, 1) := by decide +kernel
theorem dX7_cut_58 : decode cX7_cut 58 = .ok (.iload_n 2, 1) := by decide +kernel
theorem dX7_cut_59 : decode cX7_cut 59 = .ok (.iadd, 1) := by decide +kernel
theorem dX7_cut_60 : decode cX7_cut 60 = .ok (.istore_n 3, 1) := by decide +kernel
theorem dX7_cut_61 : decode cX7_cut 61 = .ok (.iload_n 2, 1) := by decide +kernel
theorem dX7_cut_62 : decode cX7_cut 62 = .ok (.aload_n 0, 1) := by decide +kernel
theorem dX7_cut_63 : decode cX7_cut 63 = .ok (.getfield 32, 3) := by decide +kernel
theorem dX7_cut_66 : decode cX7_cut 66 = .ok (.iload_n 1, 1) := by decide +kernel
theorem dX7_cut_67 : decode cX7_cut 67 = .ok (.iaload, 1) := by decide +kernel
theorem dX7_cut_68 : decode cX7_cut 68 = .ok (.if_icmp .ge 31, 3) := by decide +kernel
theorem dX7_cut_71 : decode cX7_cut 71 = .ok (.aload_n 0, 1) := by decide +kernel
theorem dX7_cut_72 : decode cX7_cut 72 = .ok (.getfield 100, 3) := by decide +kernel
theorem dX7_cut_75 : decode cX7_cut 75 = .ok (.aload_n 0, 1) := by decide +kernel
theorem dX7_cut_76 : decode cX7_cut 76 = .ok (.getfield 41, 3) := by decide +kernel
theorem dX7_cut_79 : decode cX7_cut 79 = .ok (.iload_n 3, 1) := by decide +kernel
theorem dX7_cut_80 : decode cX7_cut 80 = .ok (.iaload, 1) := by decide +kernel
theorem dX7_cut_81 : decode cX7_cut 81 = .ok (.isub, 1) := by decide +kernel
theorem dX7_cut_82 : decode cX7_cut 82 = .ok (.iconst 5, 1) := by decide +kernel
theorem dX7_cut_83 : decode cX7_cut 83 = .ok (.if_icmp .lt 14, 3) := by decide +kernel
theorem dX7_cut_86 : decode cX7_cut 86 = .ok (.aload_n 0, 1) := by decide +kernel
theorem dX7_cut_87 : decode cX7_cut 87 = .ok (.getfield 38, 3) := by decide +kernel
theorem dX7_cut_90 : decode cX7_cut 90 = .ok (.iload_n 3, 1) := by decide +kernel
theorem dX7_cut_91 : decode cX7_cut 91 = .ok (.iaload, 1) := by decide +kernel
theorem dX7_cut_92 : decode cX7_cut 92 = .ok (.bipush 40, 2) := by decide +kernel
theorem dX7_cut_94 : decode cX7_cut 94 = .ok (.if_icmp .ne 5, 3) := by decide +kernel
theorem dX7_cut_97 : decode cX7_cut 97 = .ok (.iconst (-1), 1) := by decide +kernel
theorem dX7_cut_98 : decode cX7_cut 98 = .ok (.ireturn, 1) := by decide +kernel
theorem dX7_cut_99 : decode cX7_cut 99 = .ok (.iload_n 2, 1) := by decide +kernel
theorem dX7_cut_100 : decode cX7_cut 100 = .ok (.aload_n 0, 1) := by decide +kernel
theorem dX7_cut_101 : decode cX7_cut 101 = .ok (.getfield 32, 3) := by decide +kernel
theorem dX7_cut_104 : decode cX7_cut 104 = .ok (.iload_n 1, 1) := by decide +kernel
theorem dX7_cut_105 : decode cX7_cut 105 = .ok (.iaload, 1) := by decide +kernel
theorem dX7_cut_106 : decode cX7_cut 106 = .ok (.if_icmp .ne 27, 3) := by decide +kernel
theorem dX7_cut_109 : decode cX7_cut 109 = .ok (.aload_n 0, 1) := by decide +kernel
theorem dX7_cut_110 : decode cX7_cut 110 = .ok (.getfield 32, 3) := by decide +kernel
theorem dX7_cut_113 : decode cX7_cut 113 = .ok (.iload_n 1, 1) := by decide +kernel
theorem dX7_cut_114 : decode cX7_cut 114 = .ok (.dup2, 1) := by decide +kernel
theorem dX7_cut_115 : decode cX7_cut 115 = .ok (.iaload, 1) := by decide +kernel
theorem dX7_cut_116 : decode cX7_cut 116 = .ok (.iconst 1, 1) := by decide +kernel
theorem dX7_cut_117 : decode cX7_cut 117 = .ok (.iadd, 1) := by decide +kernel
theorem dX7_cut_118 : decode cX7_cut 118 = .ok (.iastore, 1) := by decide +kernel
theorem dX7_cut_119 : decode cX7_cut 119 = .ok (.aload_n 0, 1) := by decide +kernel
theorem dX7_cut_120 : decode cX7_cut 120 = .ok (.getfield 44, 3) := by decide +kernel
theorem dX7_cut_123 : decode cX7_cut 123 = .ok (.iload_n 3, 1) := by decide +kernel
theorem dX7_cut_124 : decode cX7_cut 124 = .ok (.aload_n 0, 1) := by decide +kernel
theorem dX7_cut_125 : decode cX7_cut 125 = .ok (.getfield 100, 3) := by decide +kernel
theorem dX7_cut_128 : decode cX7_cut 128 = .ok (.sipush 365, 3) := by decide +kernel
theorem dX7_cut_131 : decode cX7_cut 131 = .ok (.idiv, 1) := by decide +kernel
theorem dX7_cut_132 : decode cX7_cut 132 = .ok (.iastore, 1) := by decide +kernel
theorem dX7_cut_133 : decode cX7_cut 133 = .ok (.aload_n 0, 1) := by decide +kernel
theorem dX7_cut_134 : decode cX7_cut 134 = .ok (.getfield 38, 3) := by decide +kernel
theorem dX7_cut_137 : decode cX7_cut 137 = .ok (.iload_n 3, 1) := by decide +kernel
theorem dX7_cut_138 : decode cX7_cut 138 = .ok (.dup2, 1) := by decide +kernel
theorem dX7_cut_139 : decode cX7_cut 139 = .ok (.iaload, 1) := by decide +kernel
theorem dX7_cut_140 : decode cX7_cut 140 = .ok (.iconst 1, 1) := by decide +kernel
theorem dX7_cut_141 : decode cX7_cut 141 = .ok (.iadd, 1) := by decide +kernel
theorem dX7_cut_142 : decode cX7_cut 142 = .ok (.iastore, 1) := by decide +kernel
theorem dX7_cut_143 : decode cX7_cut 143 = .ok (.aload_n 0, 1) := by decide +kernel
theorem dX7_cut_144 : decode cX7_cut 144 = .ok (.getfield 41, 3) := by decide +kernel
theorem dX7_cut_147 : decode cX7_cut 147 = .ok (.iload_n 3, 1) := by decide +kernel
theorem dX7_cut_148 : decode cX7_cut 148 = .ok (.aload_n 0, 1) := by decide +kernel
theorem dX7_cut_149 : decode cX7_cut 149 = .ok (.getfield 100, 3) := by decide +kernel
theorem dX7_cut_152 : decode cX7_cut 152 = .ok (.iastore, 1) := by decide +kernel
theorem dX7_cut_153 : decode cX7_cut 153 = .ok (.aload_n 0, 1) := by decide +kernel
theorem dX7_cut_154 : decode cX7_cut 154 = .ok (.getfield 35, 3) := by decide +kernel
theorem dX7_cut_157 : decode cX7_cut 157 = .ok (.iload_n 1, 1) := by decide +kernel
theorem dX7_cut_158 : decode cX7_cut 158 = .ok (.dup2, 1) := by decide +kernel
theorem dX7_cut_159 : decode cX7_cut 159 = .ok (.iaload, 1) := by decide +kernel
theorem dX7_cut_160 : decode cX7_cut 160 = .ok (.iconst 1, 1) := by decide +kernel
theorem dX7_cut_161 : decode cX7_cut 161 = .ok (.aload_n 0, 1) := by decide +kernel
theorem dX7_cut_162 : decode cX7_cut 162 = .ok (.getfield 100, 3) := by decide +kernel
theorem dX7_cut_165 : decode cX7_cut 165 = .ok (.sipush 365, 3) := by decide +kernel
theorem dX7_cut_168 : decode cX7_cut 168 = .ok (.idiv, 1) := by decide +kernel
theorem dX7_cut_169 : decode cX7_cut 169 = .ok (.ishl, 1) := by decide +kernel
theorem dX7_cut_170 : decode cX7_cut 170 = .ok (.ior, 1) := by decide +kernel
theorem dX7_cut_171 : decode cX7_cut 171 = .ok (.iastore, 1) := by decide +kernel
theorem dX7_cut_172 : decode cX7_cut 172 = .ok (.aload_n 0, 1) := by decide +kernel
theorem dX7_cut_173 : decode cX7_cut 173 = .ok (.getfield 38, 3) := by decide +kernel
theorem dX7_cut_176 : decode cX7_cut 176 = .ok (.iload_n 3, 1) := by decide +kernel
theorem dX7_cut_177 : decode cX7_cut 177 = .ok (.iaload, 1) := by decide +kernel
theorem dX7_cut_178 : decode cX7_cut 178 = .ok (.ireturn, 1) := by decide +kernel
set_option maxRecDepth 20000 in
theorem ggX7_rests_X7_isTree : GoodIn wsX7_rests wsX7_isTree := goodIn_r _ [7, 8, 9, 10, 6, 11, 12, 13, 14, 15, 16, 17, 18, 19, 20, 21, 22, 23, 24, 25, 26, 27, 28, 29, 30, 31, 32, 33, 34, 35, 36, 37, 38, 39, 40, 41, 42, 43, 44, 45, 46, 47, 48, 49, 50] (by decide +kernel) (by decide +kernel)
set_option maxRecDepth 20000 in
theorem gX7_rests_X7_isTree : GoodIn wsX7_rests (wsV RX7 103 RX7 yX7_isTree wsX7_isTree) := goodIn_app (goodIn_of _ (by decide +kernel)) ggX7_rests_X7_isTree
theorem dX7_rests_0 : decode cX7_rests 0 = .ok (.aload_n 0, 1) := by decide +kernel
theorem dX7_rests_1 : decode cX7_rests 1 = .ok (.iload_n 1, 1) := by decide +kernel
theorem dX7_rests_2 : decode cX7_rests 2 = .ok (.invokevirtual 103, 3) := by decide +kernel
theorem dX7_rests_5 : decode cX7_rests 5 = .ok (.ifCond .ne 5, 3) := by decide +kernel
theorem dX7_rests_8 : decode cX7_rests 8 = .ok (.iconst 0, 1) := by decide +kernel
theorem dX7_rests_9 : decode cX7_rests 9 = .ok (.ireturn, 1) := by decide +kernel
theorem dX7_rests_10 : decode cX7_rests 10 = .ok (.aload_n 0, 1) := by decide +kernel
theorem dX7_rests_11 : decode cX7_rests 11 = .ok (.getfield 100, 3) := by decide +kernel
theorem dX7_rests_14 : decode cX7_rests 14 = .ok (.sipush 365, 3) := by decide +kernel
theorem dX7_rests_17 : decode cX7_rests 17 = .ok (.idiv, 1) := by decide +kernel
theorem dX7_rests_18 : decode cX7_rests 18 = .ok (.istore_n 2, 1) := by decide +kernel
theorem dX7_rests_19 : decode cX7_rests 19 = .ok (.iload_n 2, 1) := by decide +kernel
theorem dX7_rests_20 : decode cX7_rests 20 = .ok (.iconst 4, 1) := by decide +kernel
theorem dX7_rests_21 : decode cX7_rests 21 = .ok (.if_icmp .lt 7, 3) := by decide +kernel
theorem dX7_rests_24 : decode cX7_rests 24 = .ok (.iconst 1, 1) := by decide +kernel
theorem dX7_rests_25 : decode cX7_rests 25 = .ok (.goto 4, 3) := by decide +kernel
theorem dX7_rests_28 : decode cX7_rests 28 = .ok (.iconst 0, 1) := by decide +kernel
theorem dX7_rests_29 : decode cX7_rests 29 = .ok (.istore_n 3, 1) := by decide +kernel
theorem dX7_rests_30 : decode cX7_rests 30 = .ok (.iconst 1, 1) := by decide +kernel
theorem dX7_rests_31 : decode cX7_rests 31 = .ok (.istore 4, 2) := by decide +kernel
theorem dX7_rests_33 : decode cX7_rests 33 = .ok (.iload 4, 2) := by decide +kernel
theorem dX7_rests_35 : decode cX7_rests 35 = .ok (.iconst 4, 1) := by decide +kernel
theorem dX7_rests_36 : decode cX7_rests 36 = .ok (.if_icmp .gt 36, 3) := by decide +kernel
theorem dX7_rests_39 : decode cX7_rests 39 = .ok (.iload_n 3, 1) := by decide +kernel
theorem dX7_rests_40 : decode cX7_rests 40 = .ok (.ifCond .eq 32, 3) := by decide +kernel
theorem dX7_rests_43 : decode cX7_rests 43 = .ok (.aload_n 0, 1) := by decide +kernel
theorem dX7_rests_44 : decode cX7_rests 44 = .ok (.getfield 35, 3) := by decide +kernel
theorem dX7_rests_47 : decode cX7_rests 47 = .ok (.iload_n 1, 1) := by decide +kernel
theorem dX7_rests_48 : decode cX7_rests 48 = .ok (.iaload, 1) := by decide +kernel
theorem dX7_rests_49 : decode cX7_rests 49 = .ok (.iload_n 2, 1) := by decide +kernel
theorem dX7_rests_50 : decode cX7_rests 50 = .ok (.iload 4, 2) := by decide +kernel
theorem dX7_rests_52 : decode cX7_rests 52 = .ok (.isub, 1) := by decide +kernel
theorem dX7_rests_53 : decode cX7_rests 53 = .ok (.ishr, 1) := by decide +kernel
theorem dX7_rests_54 : decode cX7_rests 54 = .ok (.iconst 1, 1) := by decide +kernel
theorem dX7_rests_55 : decode cX7_rests 55 = .ok (.iand, 1) := by decide +kernel
theorem dX7_rests_56 : decode cX7_rests 56 = .ok (.iconst 1, 1) := by decide +kernel
theorem dX7_rests_57 : decode cX7_rests 57 = .ok (.if_icmp .ne 7, 3) := by decide +kernel
theorem dX7_rests_60 : decode cX7_rests 60 = .ok (.iconst 1, 1) := by decide +kernel
theorem dX7_rests_61 : decode cX7_rests 61 = .ok (.goto 4, 3) := by decide +kernel
theorem dX7_rests_64 : decode cX7_rests 64 = .ok (.iconst 0, 1) := by decide +kernel
theorem dX7_rests_65 : decode cX7_rests 65 = .ok (.istore_n 3, 1) := by decide +kernel
theorem dX7_rests_66 : decode cX7_rests 66 = .ok (.iinc 4 1, 3) := by decide +kernel
theorem dX7_rests_69 : decode cX7_rests 69 = .ok (.goto (-36), 3) := by decide +kernel
theorem dX7_rests_72 : decode cX7_rests 72 = .ok (.iload_n 3, 1) := by decide +kernel
theorem dX7_rests_73 : decode cX7_rests 73 = .ok (.ireturn, 1) := by decide +kernel
theorem dX7_strength_0 : decode cX7_strength 0 = .ok (.iload_n 0, 1) := by decide +kernel
theorem dX7_strength_1 : decode cX7_strength 1 = .ok (.iconst 5, 1) := by decide +kernel
theorem dX7_strength_2 : decode cX7_strength 2 = .ok (.if_icmp .ge 10, 3) := by decide +kernel
theorem dX7_strength_5 : decode cX7_strength 5 = .ok (.bipush 6, 2) := by decide +kernel
theorem dX7_strength_7 : decode cX7_strength 7 = .ok (.iload_n 0, 1) := by decide +kernel
theorem dX7_strength_8 : decode cX7_strength 8 = .ok (.isub, 1) := by decide +kernel
theorem dX7_strength_9 : decode cX7_strength 9 = .ok (.goto 14, 3) := by decide +kernel
theorem dX7_strength_12 : decode cX7_strength 12 = .ok (.iload_n 0, 1) := by decide +kernel
theorem dX7_strength_13 : decode cX7_strength 13 = .ok (.bipush 10, 2) := by decide +kernel
theorem dX7_strength_15 : decode cX7_strength 15 = .ok (.if_icmp .ge 7, 3) := by decide +kernel
theorem dX7_strength_18 : decode cX7_strength 18 = .ok (.iconst 1, 1) := by decide +kernel
theorem dX7_strength_19 : decode cX7_strength 19 = .ok (.goto 4, 3) := by decide +kernel
theorem dX7_strength_22 : decode cX7_strength 22 = .ok (.iconst 0, 1) := by decide +kernel
theorem dX7_strength_23 : decode cX7_strength 23 = .ok (.ireturn, 1) := by decide +kernel
theorem dX7_inCup_0 : decode cX7_inCup 0 = .ok (.iconst 0, 1) := by decide +kernel
theorem dX7_inCup_1 : decode cX7_inCup 1 = .ok (.istore_n 2, 1) := by decide +kernel
theorem dX7_inCup_2 : decode cX7_inCup 2 = .ok (.iconst 0, 1) := by decide +kernel
theorem dX7_inCup_3 : decode cX7_inCup 3 = .ok (.istore_n 3, 1) := by decide +kernel
theorem dX7_inCup_4 : decode cX7_inCup 4 = .ok (.iload_n 3, 1) := by decide +kernel
theorem dX7_inCup_5 : decode cX7_inCup 5 = .ok (.iconst 4, 1) := by decide +kernel
theorem dX7_inCup_6 : decode cX7_inCup 6 = .ok (.if_icmp .ge 22, 3) := by decide +kernel
theorem dX7_inCup_9 : decode cX7_inCup 9 = .ok (.iload_n 2, 1) := by decide +kernel
theorem dX7_inCup_10 : decode cX7_inCup 10 = .ok (.aload_n 0, 1) := by decide +kernel
theorem dX7_inCup_11 : decode cX7_inCup 11 = .ok (.getfield 47, 3) := by decide +kernel
theorem dX7_inCup_14 : decode cX7_inCup 14 = .ok (.iconst 4, 1) := by decide +kernel
theorem dX7_inCup_15 : decode cX7_inCup 15 = .ok (.iload_n 1, 1) := by decide +kernel
theorem dX7_inCup_16 : decode cX7_inCup 16 = .ok (.imul, 1) := by decide +kernel
theorem dX7_inCup_17 : decode cX7_inCup 17 = .ok (.iload_n 3, 1) := by decide +kernel
theorem dX7_inCup_18 : decode cX7_inCup 18 = .ok (.iadd, 1) := by decide +kernel
theorem dX7_inCup_19 : decode cX7_inCup 19 = .ok (.iaload, 1) := by decide +kernel
theorem dX7_inCup_20 : decode cX7_inCup 20 = .ok (.iadd, 1) := by decide +kernel
theorem dX7_inCup_21 : decode cX7_inCup 21 = .ok (.istore_n 2, 1) := by decide +kernel
theorem dX7_inCup_22 : decode cX7_inCup 22 = .ok (.iinc 3 1, 3) := by decide +kernel
theorem dX7_inCup_25 : decode cX7_inCup 25 = .ok (.goto (-21), 3) := by decide +kernel
theorem dX7_inCup_28 : decode cX7_inCup 28 = .ok (.iload_n 2, 1) := by decide +kernel
theorem dX7_inCup_29 : decode cX7_inCup 29 = .ok (.ireturn, 1) := by decide +kernel
theorem dX7_gradeOf_0 : decode cX7_gradeOf 0 = .ok (.iload_n 2, 1) := by decide +kernel
theorem dX7_gradeOf_1 : decode cX7_gradeOf 1 = .ok (.sipush 365, 3) := by decide +kernel
theorem dX7_gradeOf_4 : decode cX7_gradeOf 4 = .ok (.idiv, 1) := by decide +kernel
theorem dX7_gradeOf_5 : decode cX7_gradeOf 5 = .ok (.aload_n 0, 1) := by decide +kernel
theorem dX7_gradeOf_6 : decode cX7_gradeOf 6 = .ok (.getfield 44, 3) := by decide +kernel
theorem dX7_gradeOf_9 : decode cX7_gradeOf 9 = .ok (.iload_n 1, 1) := by decide +kernel
theorem dX7_gradeOf_10 : decode cX7_gradeOf 10 = .ok (.iaload, 1) := by decide +kernel
theorem dX7_gradeOf_11 : decode cX7_gradeOf 11 = .ok (.isub, 1) := by decide +kernel
theorem dX7_gradeOf_12 : decode cX7_gradeOf 12 = .ok (.istore_n 3, 1) := by decide +kernel
theorem dX7_gradeOf_13 : decode cX7_gradeOf 13 = .ok (.iload_n 3, 1) := by decide +kernel
theorem dX7_gradeOf_14 : decode cX7_gradeOf 14 = .ok (.iconst 3, 1) := by decide +kernel
theorem dX7_gradeOf_15 : decode cX7_gradeOf 15 = .ok (.if_icmp .le 7, 3) := by decide +kernel
theorem dX7_gradeOf_18 : decode cX7_gradeOf 18 = .ok (.iconst 3, 1) := by decide +kernel
theorem dX7_gradeOf_19 : decode cX7_gradeOf 19 = .ok (.goto 4, 3) := by decide +kernel
theorem dX7_gradeOf_22 : decode cX7_gradeOf 22 = .ok (.iload_n 3, 1) := by decide +kernel
theorem dX7_gradeOf_23 : decode cX7_gradeOf 23 = .ok (.ireturn, 1) := by decide +kernel
set_option maxRecDepth 20000 in
theorem ggX7_go_X7_in : GoodIn wsX7_go wsX7_in := goodIn_r _ [8] (by decide +kernel) (by decide +kernel)
set_option maxRecDepth 20000 in
theorem gX7_go_X7_in : GoodIn wsX7_go (va_wsS RX7 96 yX7_in wsX7_in) := goodIn_app (goodIn_of _ (by decide +kernel)) ggX7_go_X7_in
set_option maxRecDepth 20000 in
theorem ggX7_go_X7_runs : GoodIn wsX7_go wsX7_runs := goodIn_r _ [12, 13, 1, 14, 15, 16, 17, 18, 19, 20, 7, 21, 22, 23, 24, 25, 26, 27, 28, 29, 30, 37, 38, 39, 40, 41, 42, 43, 44, 45, 46, 47, 48, 49, 50, 51, 52, 53, 54, 55, 56, 57, 58, 59, 60, 61, 62, 63, 64, 65, 66, 67, 68, 69, 70, 71, 72, 73, 74, 75] (by decide +kernel) (by decide +kernel)
set_option maxRecDepth 20000 in
theorem gX7_go_X7_runs : GoodIn wsX7_go (wsV RX7 114 RX7 yX7_runs wsX7_runs) := goodIn_app (goodIn_of _ (by decide +kernel)) ggX7_go_X7_runs
set_option maxRecDepth 20000 in
theorem ggX7_go_X7_washes : GoodIn wsX7_go wsX7_washes := goodIn_r _ [34, 15, 35, 1, 36, 37, 38, 39, 40, 41, 42, 43, 44, 45, 46, 47, 48, 49, 50, 51, 52, 53, 54, 55, 56, 57, 58, 59, 60, 61, 62, 63, 64, 65, 66, 67, 68, 69, 70, 71, 72, 73, 74, 75] (by decide +kernel) (by decide +kernel)
set_option maxRecDepth 20000 in
theorem gX7_go_X7_washes : GoodIn wsX7_go (wsV RX7 118 RX7 yX7_washes wsX7_washes) := goodIn_app (goodIn_of _ (by decide +kernel)) ggX7_go_X7_washes
theorem dX7_go_0 : decode cX7_go 0 = .ok (.iload_n 1, 1) := by decide +kernel
theorem dX7_go_1 : decode cX7_go 1 = .ok (.iconst 0, 1) := by decide +kernel
theorem dX7_go_2 : decode cX7_go 2 = .ok (.sipush 400, 3) := by decide +kernel
theorem dX7_go_5 : decode cX7_go 5 = .ok (.invokestatic 96, 3) := by decide +kernel
theorem dX7_go_8 : decode cX7_go 8 = .ok (.ifCond .ne 5, 3) := by decide +kernel
theorem dX7_go_11 : decode cX7_go 11 = .ok (.iconst (-1), 1) := by decide +kernel
theorem dX7_go_12 : decode cX7_go 12 = .ok (.ireturn, 1) := by decide +kernel
theorem dX7_go_13 : decode cX7_go 13 = .ok (.iconst 0, 1) := by decide +kernel
theorem dX7_go_14 : decode cX7_go 14 = .ok (.istore_n 2, 1) := by decide +kernel
theorem dX7_go_15 : decode cX7_go 15 = .ok (.iload_n 2, 1) := by decide +kernel
theorem dX7_go_16 : decode cX7_go 16 = .ok (.iload_n 1, 1) := by decide +kernel
theorem dX7_go_17 : decode cX7_go 17 = .ok (.if_icmp .ge 130, 3) := by decide +kernel
theorem dX7_go_20 : decode cX7_go 20 = .ok (.aload_n 0, 1) := by decide +kernel
theorem dX7_go_21 : decode cX7_go 21 = .ok (.getfield 100, 3) := by decide +kernel
theorem dX7_go_24 : decode cX7_go 24 = .ok (.sipush 3650, 3) := by decide +kernel
theorem dX7_go_27 : decode cX7_go 27 = .ok (.if_icmp .ge 120, 3) := by decide +kernel
theorem dX7_go_30 : decode cX7_go 30 = .ok (.iconst 0, 1) := by decide +kernel
theorem dX7_go_31 : decode cX7_go 31 = .ok (.istore_n 3, 1) := by decide +kernel
theorem dX7_go_32 : decode cX7_go 32 = .ok (.iload_n 3, 1) := by decide +kernel
theorem dX7_go_33 : decode cX7_go 33 = .ok (.aload_n 0, 1) := by decide +kernel
theorem dX7_go_34 : decode cX7_go 34 = .ok (.getfield 92, 3) := by decide +kernel
theorem dX7_go_37 : decode cX7_go 37 = .ok (.if_icmp .ge 48, 3) := by decide +kernel
theorem dX7_go_40 : decode cX7_go 40 = .ok (.iconst 0, 1) := by decide +kernel
theorem dX7_go_41 : decode cX7_go 41 = .ok (.istore 4, 2) := by decide +kernel
theorem dX7_go_43 : decode cX7_go 43 = .ok (.iload 4, 2) := by decide +kernel
theorem dX7_go_45 : decode cX7_go 45 = .ok (.aload_n 0, 1) := by decide +kernel
theorem dX7_go_46 : decode cX7_go 46 = .ok (.getfield 32, 3) := by decide +kernel
theorem dX7_go_49 : decode cX7_go 49 = .ok (.iload_n 3, 1) := by decide +kernel
theorem dX7_go_50 : decode cX7_go 50 = .ok (.iaload, 1) := by decide +kernel
theorem dX7_go_51 : decode cX7_go 51 = .ok (.if_icmp .ge 28, 3) := by decide +kernel
theorem dX7_go_54 : decode cX7_go 54 = .ok (.aload_n 0, 1) := by decide +kernel
theorem dX7_go_55 : decode cX7_go 55 = .ok (.getfield 28, 3) := by decide +kernel
theorem dX7_go_58 : decode cX7_go 58 = .ok (.iload_n 3, 1) := by decide +kernel
theorem dX7_go_59 : decode cX7_go 59 = .ok (.baload, 1) := by decide +kernel
theorem dX7_go_60 : decode cX7_go 60 = .ok (.ifCond .ne 19, 3) := by decide +kernel
theorem dX7_go_63 : decode cX7_go 63 = .ok (.aload_n 0, 1) := by decide +kernel
theorem dX7_go_64 : decode cX7_go 64 = .ok (.iconst 3, 1) := by decide +kernel
theorem dX7_go_65 : decode cX7_go 65 = .ok (.iload_n 3, 1) := by decide +kernel
theorem dX7_go_66 : decode cX7_go 66 = .ok (.imul, 1) := by decide +kernel
theorem dX7_go_67 : decode cX7_go 67 = .ok (.iload 4, 2) := by decide +kernel
theorem dX7_go_69 : decode cX7_go 69 = .ok (.iadd, 1) := by decide +kernel
theorem dX7_go_70 : decode cX7_go 70 = .ok (.invokevirtual 114, 3) := by decide +kernel
theorem dX7_go_73 : decode cX7_go 73 = .ok (.iinc 4 1, 3) := by decide +kernel
theorem dX7_go_76 : decode cX7_go 76 = .ok (.goto (-33), 3) := by decide +kernel
theorem dX7_go_79 : decode cX7_go 79 = .ok (.iinc 3 1, 3) := by decide +kernel
theorem dX7_go_82 : decode cX7_go 82 = .ok (.goto (-50), 3) := by decide +kernel
theorem dX7_go_85 : decode cX7_go 85 = .ok (.iconst 0, 1) := by decide +kernel
theorem dX7_go_86 : decode cX7_go 86 = .ok (.istore_n 3, 1) := by decide +kernel
theorem dX7_go_87 : decode cX7_go 87 = .ok (.iload_n 3, 1) := by decide +kernel
theorem dX7_go_88 : decode cX7_go 88 = .ok (.aload_n 0, 1) := by decide +kernel
theorem dX7_go_89 : decode cX7_go 89 = .ok (.getfield 92, 3) := by decide +kernel
theorem dX7_go_92 : decode cX7_go 92 = .ok (.if_icmp .ge 39, 3) := by decide +kernel
theorem dX7_go_95 : decode cX7_go 95 = .ok (.iconst 0, 1) := by decide +kernel
theorem dX7_go_96 : decode cX7_go 96 = .ok (.istore 4, 2) := by decide +kernel
theorem dX7_go_98 : decode cX7_go 98 = .ok (.iload 4, 2) := by decide +kernel
theorem dX7_go_100 : decode cX7_go 100 = .ok (.aload_n 0, 1) := by decide +kernel
theorem dX7_go_101 : decode cX7_go 101 = .ok (.getfield 32, 3) := by decide +kernel
theorem dX7_go_104 : decode cX7_go 104 = .ok (.iload_n 3, 1) := by decide +kernel
theorem dX7_go_105 : decode cX7_go 105 = .ok (.iaload, 1) := by decide +kernel
theorem dX7_go_106 : decode cX7_go 106 = .ok (.if_icmp .ge 19, 3) := by decide +kernel
theorem dX7_go_109 : decode cX7_go 109 = .ok (.aload_n 0, 1) := by decide +kernel
theorem dX7_go_110 : decode cX7_go 110 = .ok (.iconst 3, 1) := by decide +kernel
theorem dX7_go_111 : decode cX7_go 111 = .ok (.iload_n 3, 1) := by decide +kernel
theorem dX7_go_112 : decode cX7_go 112 = .ok (.imul, 1) := by decide +kernel
theorem dX7_go_113 : decode cX7_go 113 = .ok (.iload 4, 2) := by decide +kernel
theorem dX7_go_115 : decode cX7_go 115 = .ok (.iadd, 1) := by decide +kernel
theorem dX7_go_116 : decode cX7_go 116 = .ok (.invokevirtual 118, 3) := by decide +kernel
theorem dX7_go_119 : decode cX7_go 119 = .ok (.iinc 4 1, 3) := by decide +kernel
theorem dX7_go_122 : decode cX7_go 122 = .ok (.goto (-24), 3) := by decide +kernel
theorem dX7_go_125 : decode cX7_go 125 = .ok (.iinc 3 1, 3) := by decide +kernel
theorem dX7_go_128 : decode cX7_go 128 = .ok (.goto (-41), 3) := by decide +kernel
theorem dX7_go_131 : decode cX7_go 131 = .ok (.aload_n 0, 1) := by decide +kernel
theorem dX7_go_132 : decode cX7_go 132 = .ok (.dup, 1) := by decide +kernel
theorem dX7_go_133 : decode cX7_go 133 = .ok (.getfield 100, 3) := by decide +kernel
theorem dX7_go_136 : decode cX7_go 136 = .ok (.iconst 1, 1) := by decide +kernel
theorem dX7_go_137 : decode cX7_go 137 = .ok (.iadd, 1) := by decide +kernel
theorem dX7_go_138 : decode cX7_go 138 = .ok (.putfield 100, 3) := by decide +kernel
theorem dX7_go_141 : decode cX7_go 141 = .ok (.iinc 2 1, 3) := by decide +kernel
theorem dX7_go_144 : decode cX7_go 144 = .ok (.goto (-129), 3) := by decide +kernel
theorem dX7_go_147 : decode cX7_go 147 = .ok (.aload_n 0, 1) := by decide +kernel
theorem dX7_go_148 : decode cX7_go 148 = .ok (.getfield 100, 3) := by decide +kernel
theorem dX7_go_151 : decode cX7_go 151 = .ok (.ireturn, 1) := by decide +kernel
set_option maxRecDepth 20000 in
theorem ggX7_runs_X7_strength : GoodIn wsX7_runs wsX7_strength := goodIn_r _ [11] (by decide +kernel) (by decide +kernel)
set_option maxRecDepth 20000 in
theorem gX7_runs_X7_strength : GoodIn wsX7_runs (va_wsS RX7 121 yX7_strength wsX7_strength) := goodIn_app (goodIn_of _ (by decide +kernel)) ggX7_runs_X7_strength
set_option maxRecDepth 20000 in
theorem ggX7_runs_X7_inCup : GoodIn wsX7_runs wsX7_inCup := goodIn_r _ [15, 4, 21, 22, 23, 24, 25, 26, 27, 28, 29, 30, 31, 32, 33, 34, 35, 36, 37, 38, 39, 40, 41, 42, 43, 44, 45, 46, 47, 48, 49, 50, 51, 52, 53, 54, 55, 56, 57, 58, 59] (by decide +kernel) (by decide +kernel)
set_option maxRecDepth 20000 in
theorem gX7_runs_X7_inCup : GoodIn wsX7_runs (wsV RX7 124 RX7 yX7_inCup wsX7_inCup) := goodIn_app (goodIn_of _ (by decide +kernel)) ggX7_runs_X7_inCup
set_option maxRecDepth 20000 in
theorem ggX7_runs_X7_gradeOf : GoodIn wsX7_runs wsX7_gradeOf := goodIn_r _ [19, 20, 21, 22, 23, 24, 25, 26, 27, 28, 29, 30, 31, 32, 33, 34, 35, 36, 37, 38, 39, 40, 41, 42, 43, 44, 45, 46, 47, 48, 49, 50, 51, 52, 53, 54, 55, 56, 57, 58, 59] (by decide +kernel) (by decide +kernel)
set_option maxRecDepth 20000 in
theorem gX7_runs_X7_gradeOf : GoodIn wsX7_runs (wsV RX7 127 RX7 yX7_gradeOf wsX7_gradeOf) := goodIn_app (goodIn_of _ (by decide +kernel)) ggX7_runs_X7_gradeOf
theorem dX7_runs_0 : decode cX7_runs 0 = .ok (.aload_n 0, 1) := by decide +kernel
theorem dX7_runs_1 : decode cX7_runs 1 = .ok (.getfield 9, 3) := by decide +kernel
theorem dX7_runs_4 : decode cX7_runs 4 = .ok (.aload_n 0, 1) := by decide +kernel
theorem dX7_runs_5 : decode cX7_runs 5 = .ok (.getfield 100, 3) := by decide +kernel
theorem dX7_runs_8 : decode cX7_runs 8 = .ok (.iaload, 1) := by decide +kernel
theorem dX7_runs_9 : decode cX7_runs 9 = .ok (.aload_n 0, 1) := by decide +kernel
theorem dX7_runs_10 : decode cX7_runs 10 = .ok (.getfield 100, 3) := by decide +kernel
theorem dX7_runs_13 : decode cX7_runs 13 = .ok (.aload_n 0, 1) := by decide +kernel
theorem dX7_runs_14 : decode cX7_runs 14 = .ok (.getfield 41, 3) := by decide +kernel
theorem dX7_runs_17 : decode cX7_runs 17 = .ok (.iload_n 1, 1) := by decide +kernel
theorem dX7_runs_18 : decode cX7_runs 18 = .ok (.iaload, 1) := by decide +kernel
theorem dX7_runs_19 : decode cX7_runs 19 = .ok (.isub, 1) := by decide +kernel
theorem dX7_runs_20 : decode cX7_runs 20 = .ok (.invokestatic 121, 3) := by decide +kernel
theorem dX7_runs_23 : decode cX7_runs 23 = .ok (.imul, 1) := by decide +kernel
theorem dX7_runs_24 : decode cX7_runs 24 = .ok (.istore_n 2, 1) := by decide +kernel
theorem dX7_runs_25 : decode cX7_runs 25 = .ok (.sipush 400, 3) := by decide +kernel
theorem dX7_runs_28 : decode cX7_runs 28 = .ok (.aload_n 0, 1) := by decide +kernel
theorem dX7_runs_29 : decode cX7_runs 29 = .ok (.iload_n 1, 1) := by decide +kernel
theorem dX7_runs_30 : decode cX7_runs 30 = .ok (.invokevirtual 124, 3) := by decide +kernel
theorem dX7_runs_33 : decode cX7_runs 33 = .ok (.isub, 1) := by decide +kernel
theorem dX7_runs_34 : decode cX7_runs 34 = .ok (.istore_n 3, 1) := by decide +kernel
theorem dX7_runs_35 : decode cX7_runs 35 = .ok (.iload_n 2, 1) := by decide +kernel
theorem dX7_runs_36 : decode cX7_runs 36 = .ok (.iload_n 3, 1) := by decide +kernel
theorem dX7_runs_37 : decode cX7_runs 37 = .ok (.if_icmp .ge 7, 3) := by decide +kernel
theorem dX7_runs_40 : decode cX7_runs 40 = .ok (.iload_n 2, 1) := by decide +kernel
theorem dX7_runs_41 : decode cX7_runs 41 = .ok (.goto 4, 3) := by decide +kernel
theorem dX7_runs_44 : decode cX7_runs 44 = .ok (.iload_n 3, 1) := by decide +kernel
theorem dX7_runs_45 : decode cX7_runs 45 = .ok (.istore 4, 2) := by decide +kernel
theorem dX7_runs_47 : decode cX7_runs 47 = .ok (.aload_n 0, 1) := by decide +kernel
theorem dX7_runs_48 : decode cX7_runs 48 = .ok (.getfield 47, 3) := by decide +kernel
theorem dX7_runs_51 : decode cX7_runs 51 = .ok (.iconst 4, 1) := by decide +kernel
theorem dX7_runs_52 : decode cX7_runs 52 = .ok (.iload_n 1, 1) := by decide +kernel
theorem dX7_runs_53 : decode cX7_runs 53 = .ok (.imul, 1) := by decide +kernel
theorem dX7_runs_54 : decode cX7_runs 54 = .ok (.aload_n 0, 1) := by decide +kernel
theorem dX7_runs_55 : decode cX7_runs 55 = .ok (.iload_n 1, 1) := by decide +kernel
theorem dX7_runs_56 : decode cX7_runs 56 = .ok (.aload_n 0, 1) := by decide +kernel
theorem dX7_runs_57 : decode cX7_runs 57 = .ok (.getfield 100, 3) := by decide +kernel
theorem dX7_runs_60 : decode cX7_runs 60 = .ok (.invokevirtual 127, 3) := by decide +kernel
theorem dX7_runs_63 : decode cX7_runs 63 = .ok (.iadd, 1) := by decide +kernel
theorem dX7_runs_64 : decode cX7_runs 64 = .ok (.dup2, 1) := by decide +kernel
theorem dX7_runs_65 : decode cX7_runs 65 = .ok (.iaload, 1) := by decide +kernel
theorem dX7_runs_66 : decode cX7_runs 66 = .ok (.iload 4, 2) := by decide +kernel
theorem dX7_runs_68 : decode cX7_runs 68 = .ok (.iadd, 1) := by decide +kernel
theorem dX7_runs_69 : decode cX7_runs 69 = .ok (.iastore, 1) := by decide +kernel
theorem dX7_runs_70 : decode cX7_runs 70 = .ok (.aload_n 0, 1) := by decide +kernel
theorem dX7_runs_71 : decode cX7_runs 71 = .ok (.getfield 50, 3) := by decide +kernel
theorem dX7_runs_74 : decode cX7_runs 74 = .ok (.iload_n 1, 1) := by decide +kernel
theorem dX7_runs_75 : decode cX7_runs 75 = .ok (.dup2, 1) := by decide +kernel
theorem dX7_runs_76 : decode cX7_runs 76 = .ok (.iaload, 1) := by decide +kernel
theorem dX7_runs_77 : decode cX7_runs 77 = .ok (.iload_n 2, 1) := by decide +kernel
theorem dX7_runs_78 : decode cX7_runs 78 = .ok (.iload 4, 2) := by decide +kernel
theorem dX7_runs_80 : decode cX7_runs 80 = .ok (.isub, 1) := by decide +kernel
theorem dX7_runs_81 : decode cX7_runs 81 = .ok (.iadd, 1) := by decide +kernel
theorem dX7_runs_82 : decode cX7_runs 82 = .ok (.iastore, 1) := by decide +kernel
theorem dX7_runs_83 : decode cX7_runs 83 = .ok (.aload_n 0, 1) := by decide +kernel
theorem dX7_runs_84 : decode cX7_runs 84 = .ok (.dup, 1) := by decide +kernel
theorem dX7_runs_85 : decode cX7_runs 85 = .ok (.getfield 131, 3) := by decide +kernel
theorem dX7_runs_88 : decode cX7_runs 88 = .ok (.iload_n 2, 1) := by decide +kernel
theorem dX7_runs_89 : decode cX7_runs 89 = .ok (.iload 4, 2) := by decide +kernel
theorem dX7_runs_91 : decode cX7_runs 91 = .ok (.isub, 1) := by decide +kernel
theorem dX7_runs_92 : decode cX7_runs 92 = .ok (.iadd, 1) := by decide +kernel
theorem dX7_runs_93 : decode cX7_runs 93 = .ok (.putfield 131, 3) := by decide +kernel
theorem dX7_runs_96 : decode cX7_runs 96 = .ok (.aload_n 0, 1) := by decide +kernel
theorem dX7_runs_97 : decode cX7_runs 97 = .ok (.dup, 1) := by decide +kernel
theorem dX7_runs_98 : decode cX7_runs 98 = .ok (.getfield 134, 3) := by decide +kernel
theorem dX7_runs_101 : decode cX7_runs 101 = .ok (.iload_n 2, 1) := by decide +kernel
theorem dX7_runs_102 : decode cX7_runs 102 = .ok (.iadd, 1) := by decide +kernel
theorem dX7_runs_103 : decode cX7_runs 103 = .ok (.putfield 134, 3) := by decide +kernel
theorem dX7_runs_106 : decode cX7_runs 106 = .ok (.return_, 1) := by decide +kernel
theorem dX7_washes_0 : decode cX7_washes 0 = .ok (.iconst 0, 1) := by decide +kernel
theorem dX7_washes_1 : decode cX7_washes 1 = .ok (.istore_n 2, 1) := by decide +kernel
theorem dX7_washes_2 : decode cX7_washes 2 = .ok (.iload_n 2, 1) := by decide +kernel
theorem dX7_washes_3 : decode cX7_washes 3 = .ok (.iconst 4, 1) := by decide +kernel
theorem dX7_washes_4 : decode cX7_washes 4 = .ok (.if_icmp .ge 57, 3) := by decide +kernel
theorem dX7_washes_7 : decode cX7_washes 7 = .ok (.aload_n 0, 1) := by decide +kernel
theorem dX7_washes_8 : decode cX7_washes 8 = .ok (.getfield 47, 3) := by decide +kernel
theorem dX7_washes_11 : decode cX7_washes 11 = .ok (.iconst 4, 1) := by decide +kernel
theorem dX7_washes_12 : decode cX7_washes 12 = .ok (.iload_n 1, 1) := by decide +kernel
theorem dX7_washes_13 : decode cX7_washes 13 = .ok (.imul, 1) := by decide +kernel
theorem dX7_washes_14 : decode cX7_washes 14 = .ok (.iload_n 2, 1) := by decide +kernel
theorem dX7_washes_15 : decode cX7_washes 15 = .ok (.iadd, 1) := by decide +kernel
theorem dX7_washes_16 : decode cX7_washes 16 = .ok (.iaload, 1) := by decide +kernel
theorem dX7_washes_17 : decode cX7_washes 17 = .ok (.aload_n 0, 1) := by decide +kernel
theorem dX7_washes_18 : decode cX7_washes 18 = .ok (.getfield 13, 3) := by decide +kernel
theorem dX7_washes_21 : decode cX7_washes 21 = .ok (.aload_n 0, 1) := by decide +kernel
theorem dX7_washes_22 : decode cX7_washes 22 = .ok (.getfield 100, 3) := by decide +kernel
theorem dX7_washes_25 : decode cX7_washes 25 = .ok (.iaload, 1) := by decide +kernel
theorem dX7_washes_26 : decode cX7_washes 26 = .ok (.imul, 1) := by decide +kernel
theorem dX7_washes_27 : decode cX7_washes 27 = .ok (.bipush 100, 2) := by decide +kernel
theorem dX7_washes_29 : decode cX7_washes 29 = .ok (.idiv, 1) := by decide +kernel
theorem dX7_washes_30 : decode cX7_washes 30 = .ok (.istore_n 3, 1) := by decide +kernel
theorem dX7_washes_31 : decode cX7_washes 31 = .ok (.aload_n 0, 1) := by decide +kernel
theorem dX7_washes_32 : decode cX7_washes 32 = .ok (.getfield 47, 3) := by decide +kernel
theorem dX7_washes_35 : decode cX7_washes 35 = .ok (.iconst 4, 1) := by decide +kernel
theorem dX7_washes_36 : decode cX7_washes 36 = .ok (.iload_n 1, 1) := by decide +kernel
theorem dX7_washes_37 : decode cX7_washes 37 = .ok (.imul, 1) := by decide +kernel
theorem dX7_washes_38 : decode cX7_washes 38 = .ok (.iload_n 2, 1) := by decide +kernel
theorem dX7_washes_39 : decode cX7_washes 39 = .ok (.iadd, 1) := by decide +kernel
theorem dX7_washes_40 : decode cX7_washes 40 = .ok (.dup2, 1) := by decide +kernel
theorem dX7_washes_41 : decode cX7_washes 41 = .ok (.iaload, 1) := by decide +kernel
theorem dX7_washes_42 : decode cX7_washes 42 = .ok (.iload_n 3, 1) := by decide +kernel
theorem dX7_washes_43 : decode cX7_washes 43 = .ok (.isub, 1) := by decide +kernel
theorem dX7_washes_44 : decode cX7_washes 44 = .ok (.iastore, 1) := by decide +kernel
theorem dX7_washes_45 : decode cX7_washes 45 = .ok (.aload_n 0, 1) := by decide +kernel
theorem dX7_washes_46 : decode cX7_washes 46 = .ok (.dup, 1) := by decide +kernel
theorem dX7_washes_47 : decode cX7_washes 47 = .ok (.getfield 137, 3) := by decide +kernel
theorem dX7_washes_50 : decode cX7_washes 50 = .ok (.iload_n 3, 1) := by decide +kernel
theorem dX7_washes_51 : decode cX7_washes 51 = .ok (.iadd, 1) := by decide +kernel
theorem dX7_washes_52 : decode cX7_washes 52 = .ok (.putfield 137, 3) := by decide +kernel
theorem dX7_washes_55 : decode cX7_washes 55 = .ok (.iinc 2 1, 3) := by decide +kernel
theorem dX7_washes_58 : decode cX7_washes 58 = .ok (.goto (-56), 3) := by decide +kernel
theorem dX7_washes_61 : decode cX7_washes 61 = .ok (.return_, 1) := by decide +kernel
set_option maxRecDepth 20000 in
theorem ggX7_face_X7_isTree : GoodIn wsX7_face wsX7_isTree := goodIn_r _ [11, 12, 13, 14, 10, 15, 20, 21, 22, 23, 24, 25, 26, 27, 28, 29, 30, 31, 32, 33, 34, 35, 36, 37, 38, 39, 40, 41, 42, 43, 44, 45, 46, 47, 48, 49, 50, 51, 52, 53, 54, 55, 56, 57, 58] (by decide +kernel) (by decide +kernel)
set_option maxRecDepth 20000 in
theorem gX7_face_X7_isTree : GoodIn wsX7_face (wsV RX7 103 RX7 yX7_isTree wsX7_isTree) := goodIn_app (goodIn_of _ (by decide +kernel)) ggX7_face_X7_isTree
set_option maxRecDepth 20000 in
theorem ggX7_face_X7_in : GoodIn wsX7_face wsX7_in := goodIn_r _ [15] (by decide +kernel) (by decide +kernel)
set_option maxRecDepth 20000 in
theorem gX7_face_X7_in : GoodIn wsX7_face (va_wsS RX7 96 yX7_in wsX7_in) := goodIn_app (goodIn_of _ (by decide +kernel)) ggX7_face_X7_in
set_option maxRecDepth 20000 in
theorem ggX7_face_X7_inCup : GoodIn wsX7_face wsX7_inCup := goodIn_r _ [19, 2, 20, 21, 22, 23, 24, 25, 26, 27, 28, 29, 30, 31, 32, 33, 34, 35, 36, 37, 38, 39, 40, 41, 42, 43, 44, 45, 46, 47, 48, 49, 50, 51, 52, 53, 54, 55, 56, 57, 58] (by decide +kernel) (by decide +kernel)
set_option maxRecDepth 20000 in
theorem gX7_face_X7_inCup : GoodIn wsX7_face (wsV RX7 124 RX7 yX7_inCup wsX7_inCup) := goodIn_app (goodIn_of _ (by decide +kernel)) ggX7_face_X7_inCup
theorem dX7_face_0 : decode cX7_face 0 = .ok (.aload_n 0, 1) := by decide +kernel
theorem dX7_face_1 : decode cX7_face 1 = .ok (.iload_n 1, 1) := by decide +kernel
theorem dX7_face_2 : decode cX7_face 2 = .ok (.invokevirtual 103, 3) := by decide +kernel
theorem dX7_face_5 : decode cX7_face 5 = .ok (.ifCond .eq 19, 3) := by decide +kernel
theorem dX7_face_8 : decode cX7_face 8 = .ok (.iload_n 2, 1) := by decide +kernel
theorem dX7_face_9 : decode cX7_face 9 = .ok (.iconst 0, 1) := by decide +kernel
theorem dX7_face_10 : decode cX7_face 10 = .ok (.aload_n 0, 1) := by decide +kernel
theorem dX7_face_11 : decode cX7_face 11 = .ok (.getfield 32, 3) := by decide +kernel
theorem dX7_face_14 : decode cX7_face 14 = .ok (.iload_n 1, 1) := by decide +kernel
theorem dX7_face_15 : decode cX7_face 15 = .ok (.iaload, 1) := by decide +kernel
theorem dX7_face_16 : decode cX7_face 16 = .ok (.iconst 1, 1) := by decide +kernel
theorem dX7_face_17 : decode cX7_face 17 = .ok (.isub, 1) := by decide +kernel
theorem dX7_face_18 : decode cX7_face 18 = .ok (.invokestatic 96, 3) := by decide +kernel
theorem dX7_face_21 : decode cX7_face 21 = .ok (.ifCond .ne 5, 3) := by decide +kernel
theorem dX7_face_24 : decode cX7_face 24 = .ok (.iconst (-1), 1) := by decide +kernel
theorem dX7_face_25 : decode cX7_face 25 = .ok (.ireturn, 1) := by decide +kernel
theorem dX7_face_26 : decode cX7_face 26 = .ok (.iconst 3, 1) := by decide +kernel
theorem dX7_face_27 : decode cX7_face 27 = .ok (.iload_n 1, 1) := by decide +kernel
theorem dX7_face_28 : decode cX7_face 28 = .ok (.imul, 1) := by decide +kernel
theorem dX7_face_29 : decode cX7_face 29 = .ok (.iload_n 2, 1) := by decide +kernel
theorem dX7_face_30 : decode cX7_face 30 = .ok (.iadd, 1) := by decide +kernel
theorem dX7_face_31 : decode cX7_face 31 = .ok (.istore 4, 2) := by decide +kernel
theorem dX7_face_33 : decode cX7_face 33 = .ok (.iload_n 3, 1) := by decide +kernel
theorem dX7_face_34 : decode cX7_face 34 = .ok (.iconst 4, 1) := by decide +kernel
theorem dX7_face_35 : decode cX7_face 35 = .ok (.bipush 7, 2) := by decide +kernel
theorem dX7_face_37 : decode cX7_face 37 = .ok (.invokestatic 96, 3) := by decide +kernel
theorem dX7_face_40 : decode cX7_face 40 = .ok (.ifCond .eq 17, 3) := by decide +kernel
theorem dX7_face_43 : decode cX7_face 43 = .ok (.aload_n 0, 1) := by decide +kernel
theorem dX7_face_44 : decode cX7_face 44 = .ok (.getfield 47, 3) := by decide +kernel
theorem dX7_face_47 : decode cX7_face 47 = .ok (.iconst 4, 1) := by decide +kernel
theorem dX7_face_48 : decode cX7_face 48 = .ok (.iload 4, 2) := by decide +kernel
theorem dX7_face_50 : decode cX7_face 50 = .ok (.imul, 1) := by decide +kernel
theorem dX7_face_51 : decode cX7_face 51 = .ok (.iload_n 3, 1) := by decide +kernel
theorem dX7_face_52 : decode cX7_face 52 = .ok (.iadd, 1) := by decide +kernel
theorem dX7_face_53 : decode cX7_face 53 = .ok (.iconst 4, 1) := by decide +kernel
theorem dX7_face_54 : decode cX7_face 54 = .ok (.isub, 1) := by decide +kernel
theorem dX7_face_55 : decode cX7_face 55 = .ok (.iaload, 1) := by decide +kernel
theorem dX7_face_56 : decode cX7_face 56 = .ok (.ireturn, 1) := by decide +kernel
theorem dX7_face_57 : decode cX7_face 57 = .ok (.iload_n 3, 1) := by decide +kernel
theorem dX7_face_58 : decode cX7_face 58 = .ok (.tableswitch 89 0 8 #[50, 58, 66, 74, 89, 89, 89, 89, 81], 50) := by decide +kernel
theorem dX7_face_108 : decode cX7_face 108 = .ok (.aload_n 0, 1) := by decide +kernel
theorem dX7_face_109 : decode cX7_face 109 = .ok (.getfield 38, 3) := by decide +kernel
theorem dX7_face_112 : decode cX7_face 112 = .ok (.iload 4, 2) := by decide +kernel
theorem dX7_face_114 : decode cX7_face 114 = .ok (.iaload, 1) := by decide +kernel
theorem dX7_face_115 : decode cX7_face 115 = .ok (.ireturn, 1) := by decide +kernel
theorem dX7_face_116 : decode cX7_face 116 = .ok (.aload_n 0, 1) := by decide +kernel
theorem dX7_face_117 : decode cX7_face 117 = .ok (.getfield 41, 3) := by decide +kernel
theorem dX7_face_120 : decode cX7_face 120 = .ok (.iload 4, 2) := by decide +kernel
theorem dX7_face_122 : decode cX7_face 122 = .ok (.iaload, 1) := by decide +kernel
theorem dX7_face_123 : decode cX7_face 123 = .ok (.ireturn, 1) := by decide +kernel
theorem dX7_face_124 : decode cX7_face 124 = .ok (.aload_n 0, 1) := by decide +kernel
theorem dX7_face_125 : decode cX7_face 125 = .ok (.getfield 44, 3) := by decide +kernel
theorem dX7_face_128 : decode cX7_face 128 = .ok (.iload 4, 2) := by decide +kernel
theorem dX7_face_130 : decode cX7_face 130 = .ok (.iaload, 1) := by decide +kernel
theorem dX7_face_131 : decode cX7_face 131 = .ok (.ireturn, 1) := by decide +kernel
theorem dX7_face_132 : decode cX7_face 132 = .ok (.aload_n 0, 1) := by decide +kernel
theorem dX7_face_133 : decode cX7_face 133 = .ok (.iload 4, 2) := by decide +kernel
theorem dX7_face_135 : decode cX7_face 135 = .ok (.invokevirtual 124, 3) := by decide +kernel
theorem dX7_face_138 : decode cX7_face 138 = .ok (.ireturn, 1) := by decide +kernel
theorem dX7_face_139 : decode cX7_face 139 = .ok (.aload_n 0, 1) := by decide +kernel
theorem dX7_face_140 : decode cX7_face 140 = .ok (.getfield 50, 3) := by decide +kernel
theorem dX7_face_143 : decode cX7_face 143 = .ok (.iload 4, 2) := by decide +kernel
theorem dX7_face_145 : decode cX7_face 145 = .ok (.iaload, 1) := by decide +kernel
theorem dX7_face_146 : decode cX7_face 146 = .ok (.ireturn, 1) := by decide +kernel
theorem dX7_face_147 : decode cX7_face 147 = .ok (.iconst (-1), 1) := by decide +kernel
theorem dX7_face_148 : decode cX7_face 148 = .ok (.ireturn, 1) := by decide +kernel
theorem dX7_has_0 : decode cX7_has 0 = .ok (.iconst 0, 1) := by decide +kernel
theorem dX7_has_1 : decode cX7_has 1 = .ok (.istore_n 2, 1) := by decide +kernel
theorem dX7_has_2 : decode cX7_has 2 = .ok (.iconst 0, 1) := by decide +kernel
theorem dX7_has_3 : decode cX7_has 3 = .ok (.istore_n 3, 1) := by decide +kernel
theorem dX7_has_4 : decode cX7_has 4 = .ok (.iload_n 3, 1) := by decide +kernel
theorem dX7_has_5 : decode cX7_has 5 = .ok (.iconst 4, 1) := by decide +kernel
theorem dX7_has_6 : decode cX7_has 6 = .ok (.if_icmp .ge 22, 3) := by decide +kernel
theorem dX7_has_9 : decode cX7_has 9 = .ok (.iload_n 2, 1) := by decide +kernel
theorem dX7_has_10 : decode cX7_has 10 = .ok (.aload_n 0, 1) := by decide +kernel
theorem dX7_has_11 : decode cX7_has 11 = .ok (.getfield 56, 3) := by decide +kernel
theorem dX7_has_14 : decode cX7_has 14 = .ok (.iconst 4, 1) := by decide +kernel
theorem dX7_has_15 : decode cX7_has 15 = .ok (.iload_n 1, 1) := by decide +kernel
theorem dX7_has_16 : decode cX7_has 16 = .ok (.imul, 1) := by decide +kernel
theorem dX7_has_17 : decode cX7_has 17 = .ok (.iload_n 3, 1) := by decide +kernel
theorem dX7_has_18 : decode cX7_has 18 = .ok (.iadd, 1) := by decide +kernel
theorem dX7_has_19 : decode cX7_has 19 = .ok (.iaload, 1) := by decide +kernel
theorem dX7_has_20 : decode cX7_has 20 = .ok (.iadd, 1) := by decide +kernel
theorem dX7_has_21 : decode cX7_has 21 = .ok (.istore_n 2, 1) := by decide +kernel
theorem dX7_has_22 : decode cX7_has 22 = .ok (.iinc 3 1, 3) := by decide +kernel
theorem dX7_has_25 : decode cX7_has 25 = .ok (.goto (-21), 3) := by decide +kernel
theorem dX7_has_28 : decode cX7_has 28 = .ok (.iload_n 2, 1) := by decide +kernel
theorem dX7_has_29 : decode cX7_has 29 = .ok (.ireturn, 1) := by decide +kernel
set_option maxRecDepth 20000 in
theorem ggX7_isFull_X7_has : GoodIn wsX7_isFull wsX7_has := goodIn_r _ [7, 8, 9, 10, 11, 12, 13, 14, 15, 16, 17, 18, 19, 20, 21, 22, 23, 24, 25, 26, 27, 28, 29, 30, 31, 32, 33, 34, 35, 36, 37, 38, 39, 40, 41, 42, 43, 44, 45, 46, 47] (by decide +kernel) (by decide +kernel)
set_option maxRecDepth 20000 in
theorem gX7_isFull_X7_has : GoodIn wsX7_isFull (wsV RX7 140 RX7 yX7_has wsX7_has) := goodIn_app (goodIn_of _ (by decide +kernel)) ggX7_isFull_X7_has
theorem dX7_isFull_0 : decode cX7_isFull 0 = .ok (.aload_n 0, 1) := by decide +kernel
theorem dX7_isFull_1 : decode cX7_isFull 1 = .ok (.iload_n 1, 1) := by decide +kernel
theorem dX7_isFull_2 : decode cX7_isFull 2 = .ok (.invokevirtual 140, 3) := by decide +kernel
theorem dX7_isFull_5 : decode cX7_isFull 5 = .ok (.sipush 1000, 3) := by decide +kernel
theorem dX7_isFull_8 : decode cX7_isFull 8 = .ok (.if_icmp .eq 21, 3) := by decide +kernel
theorem dX7_isFull_11 : decode cX7_isFull 11 = .ok (.aload_n 0, 1) := by decide +kernel
theorem dX7_isFull_12 : decode cX7_isFull 12 = .ok (.getfield 62, 3) := by decide +kernel
theorem dX7_isFull_15 : decode cX7_isFull 15 = .ok (.iload_n 1, 1) := by decide +kernel
theorem dX7_isFull_16 : decode cX7_isFull 16 = .ok (.baload, 1) := by decide +kernel
theorem dX7_isFull_17 : decode cX7_isFull 17 = .ok (.ifCond .ne 12, 3) := by decide +kernel
theorem dX7_isFull_20 : decode cX7_isFull 20 = .ok (.aload_n 0, 1) := by decide +kernel
theorem dX7_isFull_21 : decode cX7_isFull 21 = .ok (.getfield 65, 3) := by decide +kernel
theorem dX7_isFull_24 : decode cX7_isFull 24 = .ok (.iload_n 1, 1) := by decide +kernel
theorem dX7_isFull_25 : decode cX7_isFull 25 = .ok (.baload, 1) := by decide +kernel
theorem dX7_isFull_26 : decode cX7_isFull 26 = .ok (.ifCond .eq 7, 3) := by decide +kernel
theorem dX7_isFull_29 : decode cX7_isFull 29 = .ok (.iconst 1, 1) := by decide +kernel
theorem dX7_isFull_30 : decode cX7_isFull 30 = .ok (.goto 4, 3) := by decide +kernel
theorem dX7_isFull_33 : decode cX7_isFull 33 = .ok (.iconst 0, 1) := by decide +kernel
theorem dX7_isFull_34 : decode cX7_isFull 34 = .ok (.ireturn, 1) := by decide +kernel
set_option maxRecDepth 20000 in
theorem ggX7_room_X7_isFull : GoodIn wsX7_room wsX7_isFull := goodIn_r _ [7, 8, 9, 10, 11, 12, 6, 13, 14, 15, 16, 17, 18, 19, 20, 21, 22, 23, 24, 25, 26, 27, 28, 29, 30, 31, 32, 33, 34, 35, 36, 37, 38, 39, 40, 41, 42, 43, 44, 45, 46, 47, 48, 49, 50, 51, 52, 53] (by decide +kernel) (by decide +kernel)
set_option maxRecDepth 20000 in
theorem gX7_room_X7_isFull : GoodIn wsX7_room (wsV RX7 146 RX7 yX7_isFull wsX7_isFull) := goodIn_app (goodIn_of _ (by decide +kernel)) ggX7_room_X7_isFull
set_option maxRecDepth 20000 in
theorem ggX7_room_X7_has : GoodIn wsX7_room wsX7_has := goodIn_r _ [13, 14, 15, 16, 17, 18, 19, 20, 21, 22, 23, 24, 25, 26, 27, 28, 29, 30, 31, 32, 33, 34, 35, 36, 37, 38, 39, 40, 41, 42, 43, 44, 45, 46, 47, 48, 49, 50, 51, 52, 53] (by decide +kernel) (by decide +kernel)
set_option maxRecDepth 20000 in
theorem gX7_room_X7_has : GoodIn wsX7_room (wsV RX7 140 RX7 yX7_has wsX7_has) := goodIn_app (goodIn_of _ (by decide +kernel)) ggX7_room_X7_has
theorem dX7_room_0 : decode cX7_room 0 = .ok (.iconst 0, 1) := by decide +kernel
theorem dX7_room_1 : decode cX7_room 1 = .ok (.istore_n 2, 1) := by decide +kernel
theorem dX7_room_2 : decode cX7_room 2 = .ok (.iconst 0, 1) := by decide +kernel
theorem dX7_room_3 : decode cX7_room 3 = .ok (.istore_n 3, 1) := by decide +kernel
theorem dX7_room_4 : decode cX7_room 4 = .ok (.iload_n 3, 1) := by decide +kernel
theorem dX7_room_5 : decode cX7_room 5 = .ok (.aload_n 0, 1) := by decide +kernel
theorem dX7_room_6 : decode cX7_room 6 = .ok (.getfield 143, 3) := by decide +kernel
theorem dX7_room_9 : decode cX7_room 9 = .ok (.if_icmp .ge 39, 3) := by decide +kernel
theorem dX7_room_12 : decode cX7_room 12 = .ok (.aload_n 0, 1) := by decide +kernel
theorem dX7_room_13 : decode cX7_room 13 = .ok (.getfield 53, 3) := by decide +kernel
theorem dX7_room_16 : decode cX7_room 16 = .ok (.iload_n 3, 1) := by decide +kernel
theorem dX7_room_17 : decode cX7_room 17 = .ok (.iaload, 1) := by decide +kernel
theorem dX7_room_18 : decode cX7_room 18 = .ok (.iload_n 1, 1) := by decide +kernel
theorem dX7_room_19 : decode cX7_room 19 = .ok (.if_icmp .ne 23, 3) := by decide +kernel
theorem dX7_room_22 : decode cX7_room 22 = .ok (.aload_n 0, 1) := by decide +kernel
theorem dX7_room_23 : decode cX7_room 23 = .ok (.iload_n 3, 1) := by decide +kernel
theorem dX7_room_24 : decode cX7_room 24 = .ok (.invokevirtual 146, 3) := by decide +kernel
theorem dX7_room_27 : decode cX7_room 27 = .ok (.ifCond .ne 15, 3) := by decide +kernel
theorem dX7_room_30 : decode cX7_room 30 = .ok (.iload_n 2, 1) := by decide +kernel
theorem dX7_room_31 : decode cX7_room 31 = .ok (.sipush 1000, 3) := by decide +kernel
theorem dX7_room_34 : decode cX7_room 34 = .ok (.aload_n 0, 1) := by decide +kernel
theorem dX7_room_35 : decode cX7_room 35 = .ok (.iload_n 3, 1) := by decide +kernel
theorem dX7_room_36 : decode cX7_room 36 = .ok (.invokevirtual 140, 3) := by decide +kernel
theorem dX7_room_39 : decode cX7_room 39 = .ok (.isub, 1) := by decide +kernel
theorem dX7_room_40 : decode cX7_room 40 = .ok (.iadd, 1) := by decide +kernel
theorem dX7_room_41 : decode cX7_room 41 = .ok (.istore_n 2, 1) := by decide +kernel
theorem dX7_room_42 : decode cX7_room 42 = .ok (.iinc 3 1, 3) := by decide +kernel
theorem dX7_room_45 : decode cX7_room 45 = .ok (.goto (-41), 3) := by decide +kernel
theorem dX7_room_48 : decode cX7_room 48 = .ok (.iload_n 2, 1) := by decide +kernel
theorem dX7_room_49 : decode cX7_room 49 = .ok (.ireturn, 1) := by decide +kernel
set_option maxRecDepth 20000 in
theorem ggX7_empty_X7_isTree : GoodIn wsX7_empty wsX7_isTree := goodIn_r _ [11, 12, 13, 14, 10, 15, 41, 42, 43, 44, 45, 46, 47, 48, 49, 50, 51, 52, 53, 54, 55, 56, 57, 58, 59, 60, 61, 62, 63, 64, 65, 66, 67, 68, 69, 70, 71, 72, 73, 74, 75, 76, 77, 78, 79] (by decide +kernel) (by decide +kernel)
set_option maxRecDepth 20000 in
theorem gX7_empty_X7_isTree : GoodIn wsX7_empty (wsV RX7 103 RX7 yX7_isTree wsX7_isTree) := goodIn_app (goodIn_of _ (by decide +kernel)) ggX7_empty_X7_isTree
set_option maxRecDepth 20000 in
theorem ggX7_empty_X7_inCup : GoodIn wsX7_empty wsX7_inCup := goodIn_r _ [19, 4, 41, 42, 43, 44, 45, 46, 47, 48, 49, 50, 51, 52, 53, 54, 55, 56, 57, 58, 59, 60, 61, 62, 63, 64, 65, 66, 67, 68, 69, 70, 71, 72, 73, 74, 75, 76, 77, 78, 79] (by decide +kernel) (by decide +kernel)
set_option maxRecDepth 20000 in
theorem gX7_empty_X7_inCup : GoodIn wsX7_empty (wsV RX7 124 RX7 yX7_inCup wsX7_inCup) := goodIn_app (goodIn_of _ (by decide +kernel)) ggX7_empty_X7_inCup
set_option maxRecDepth 20000 in
theorem ggX7_empty_X7_room : GoodIn wsX7_empty wsX7_room := goodIn_r _ [23, 3, 24, 25, 26, 27, 10, 28, 29, 30, 31, 32, 33, 34, 35, 41, 42, 43, 44, 45, 46, 47, 48, 49, 50, 51, 52, 53, 54, 55, 56, 57, 58, 59, 60, 61, 62, 63, 64, 65, 66, 67, 68, 69, 70, 71, 72, 73, 74, 75, 76, 77, 78, 79] (by decide +kernel) (by decide +kernel)
set_option maxRecDepth 20000 in
theorem gX7_empty_X7_room : GoodIn wsX7_empty (wsV RX7 149 RX7 yX7_room wsX7_room) := goodIn_app (goodIn_of _ (by decide +kernel)) ggX7_empty_X7_room
set_option maxRecDepth 20000 in
theorem ggX7_empty_X7_fills : GoodIn wsX7_empty wsX7_fills := goodIn_r _ [39, 3, 24, 2, 35, 40, 25, 26, 27, 10, 28, 29, 30, 31, 32, 33, 34, 41, 42, 43, 44, 45, 46, 47, 48, 49, 50, 51, 52, 53, 54, 55, 56, 57, 58, 59, 60, 61, 62, 63, 64, 65, 66, 67, 68, 69, 70, 71, 72, 73, 74, 75, 76, 77, 78, 79] (by decide +kernel) (by decide +kernel)
set_option maxRecDepth 20000 in
theorem gX7_empty_X7_fills : GoodIn wsX7_empty (wsV RX7 152 RX7 yX7_fills wsX7_fills) := goodIn_app (goodIn_of _ (by decide +kernel)) ggX7_empty_X7_fills
theorem dX7_empty_0 : decode cX7_empty 0 = .ok (.aload_n 0, 1) := by decide +kernel
theorem dX7_empty_1 : decode cX7_empty 1 = .ok (.iload_n 1, 1) := by decide +kernel
theorem dX7_empty_2 : decode cX7_empty 2 = .ok (.invokevirtual 103, 3) := by decide +kernel
theorem dX7_empty_5 : decode cX7_empty 5 = .ok (.ifCond .ne 5, 3) := by decide +kernel
theorem dX7_empty_8 : decode cX7_empty 8 = .ok (.iconst (-1), 1) := by decide +kernel
theorem dX7_empty_9 : decode cX7_empty 9 = .ok (.ireturn, 1) := by decide +kernel
theorem dX7_empty_10 : decode cX7_empty 10 = .ok (.iconst 0, 1) := by decide +kernel
theorem dX7_empty_11 : decode cX7_empty 11 = .ok (.istore_n 2, 1) := by decide +kernel
theorem dX7_empty_12 : decode cX7_empty 12 = .ok (.iconst 0, 1) := by decide +kernel
theorem dX7_empty_13 : decode cX7_empty 13 = .ok (.istore_n 3, 1) := by decide +kernel
theorem dX7_empty_14 : decode cX7_empty 14 = .ok (.iload_n 3, 1) := by decide +kernel
theorem dX7_empty_15 : decode cX7_empty 15 = .ok (.aload_n 0, 1) := by decide +kernel
theorem dX7_empty_16 : decode cX7_empty 16 = .ok (.getfield 32, 3) := by decide +kernel
theorem dX7_empty_19 : decode cX7_empty 19 = .ok (.iload_n 1, 1) := by decide +kernel
theorem dX7_empty_20 : decode cX7_empty 20 = .ok (.iaload, 1) := by decide +kernel
theorem dX7_empty_21 : decode cX7_empty 21 = .ok (.if_icmp .ge 21, 3) := by decide +kernel
theorem dX7_empty_24 : decode cX7_empty 24 = .ok (.iload_n 2, 1) := by decide +kernel
theorem dX7_empty_25 : decode cX7_empty 25 = .ok (.aload_n 0, 1) := by decide +kernel
theorem dX7_empty_26 : decode cX7_empty 26 = .ok (.iconst 3, 1) := by decide +kernel
theorem dX7_empty_27 : decode cX7_empty 27 = .ok (.iload_n 1, 1) := by decide +kernel
theorem dX7_empty_28 : decode cX7_empty 28 = .ok (.imul, 1) := by decide +kernel
theorem dX7_empty_29 : decode cX7_empty 29 = .ok (.iload_n 3, 1) := by decide +kernel
theorem dX7_empty_30 : decode cX7_empty 30 = .ok (.iadd, 1) := by decide +kernel
theorem dX7_empty_31 : decode cX7_empty 31 = .ok (.invokevirtual 124, 3) := by decide +kernel
theorem dX7_empty_34 : decode cX7_empty 34 = .ok (.iadd, 1) := by decide +kernel
theorem dX7_empty_35 : decode cX7_empty 35 = .ok (.istore_n 2, 1) := by decide +kernel
theorem dX7_empty_36 : decode cX7_empty 36 = .ok (.iinc 3 1, 3) := by decide +kernel
theorem dX7_empty_39 : decode cX7_empty 39 = .ok (.goto (-25), 3) := by decide +kernel
theorem dX7_empty_42 : decode cX7_empty 42 = .ok (.iload_n 2, 1) := by decide +kernel
theorem dX7_empty_43 : decode cX7_empty 43 = .ok (.aload_n 0, 1) := by decide +kernel
theorem dX7_empty_44 : decode cX7_empty 44 = .ok (.aload_n 0, 1) := by decide +kernel
theorem dX7_empty_45 : decode cX7_empty 45 = .ok (.getfield 16, 3) := by decide +kernel
theorem dX7_empty_48 : decode cX7_empty 48 = .ok (.iload_n 1, 1) := by decide +kernel
theorem dX7_empty_49 : decode cX7_empty 49 = .ok (.iaload, 1) := by decide +kernel
theorem dX7_empty_50 : decode cX7_empty 50 = .ok (.invokevirtual 149, 3) := by decide +kernel
theorem dX7_empty_53 : decode cX7_empty 53 = .ok (.isub, 1) := by decide +kernel
theorem dX7_empty_54 : decode cX7_empty 54 = .ok (.istore_n 3, 1) := by decide +kernel
theorem dX7_empty_55 : decode cX7_empty 55 = .ok (.iload_n 3, 1) := by decide +kernel
theorem dX7_empty_56 : decode cX7_empty 56 = .ok (.ifCond .le 27, 3) := by decide +kernel
theorem dX7_empty_59 : decode cX7_empty 59 = .ok (.aload_n 0, 1) := by decide +kernel
theorem dX7_empty_60 : decode cX7_empty 60 = .ok (.getfield 143, 3) := by decide +kernel
theorem dX7_empty_63 : decode cX7_empty 63 = .ok (.iload_n 3, 1) := by decide +kernel
theorem dX7_empty_64 : decode cX7_empty 64 = .ok (.sipush 1000, 3) := by decide +kernel
theorem dX7_empty_67 : decode cX7_empty 67 = .ok (.iadd, 1) := by decide +kernel
theorem dX7_empty_68 : decode cX7_empty 68 = .ok (.iconst 1, 1) := by decide +kernel
theorem dX7_empty_69 : decode cX7_empty 69 = .ok (.isub, 1) := by decide +kernel
theorem dX7_empty_70 : decode cX7_empty 70 = .ok (.sipush 1000, 3) := by decide +kernel
theorem dX7_empty_73 : decode cX7_empty 73 = .ok (.idiv, 1) := by decide +kernel
theorem dX7_empty_74 : decode cX7_empty 74 = .ok (.iadd, 1) := by decide +kernel
theorem dX7_empty_75 : decode cX7_empty 75 = .ok (.sipush 200, 3) := by decide +kernel
theorem dX7_empty_78 : decode cX7_empty 78 = .ok (.if_icmp .le 5, 3) := by decide +kernel
theorem dX7_empty_81 : decode cX7_empty 81 = .ok (.iconst (-1), 1) := by decide +kernel
theorem dX7_empty_82 : decode cX7_empty 82 = .ok (.ireturn, 1) := by decide +kernel
theorem dX7_empty_83 : decode cX7_empty 83 = .ok (.iconst 0, 1) := by decide +kernel
theorem dX7_empty_84 : decode cX7_empty 84 = .ok (.istore 4, 2) := by decide +kernel
theorem dX7_empty_86 : decode cX7_empty 86 = .ok (.iload 4, 2) := by decide +kernel
theorem dX7_empty_88 : decode cX7_empty 88 = .ok (.aload_n 0, 1) := by decide +kernel
theorem dX7_empty_89 : decode cX7_empty 89 = .ok (.getfield 32, 3) := by decide +kernel
theorem dX7_empty_92 : decode cX7_empty 92 = .ok (.iload_n 1, 1) := by decide +kernel
theorem dX7_empty_93 : decode cX7_empty 93 = .ok (.iaload, 1) := by decide +kernel
theorem dX7_empty_94 : decode cX7_empty 94 = .ok (.iconst 4, 1) := by decide +kernel
theorem dX7_empty_95 : decode cX7_empty 95 = .ok (.imul, 1) := by decide +kernel
theorem dX7_empty_96 : decode cX7_empty 96 = .ok (.if_icmp .ge 42, 3) := by decide +kernel
theorem dX7_empty_99 : decode cX7_empty 99 = .ok (.bipush 12, 2) := by decide +kernel
theorem dX7_empty_101 : decode cX7_empty 101 = .ok (.iload_n 1, 1) := by decide +kernel
theorem dX7_empty_102 : decode cX7_empty 102 = .ok (.imul, 1) := by decide +kernel
theorem dX7_empty_103 : decode cX7_empty 103 = .ok (.iload 4, 2) := by decide +kernel
theorem dX7_empty_105 : decode cX7_empty 105 = .ok (.iadd, 1) := by decide +kernel
theorem dX7_empty_106 : decode cX7_empty 106 = .ok (.istore 5, 2) := by decide +kernel
theorem dX7_empty_108 : decode cX7_empty 108 = .ok (.aload_n 0, 1) := by decide +kernel
theorem dX7_empty_109 : decode cX7_empty 109 = .ok (.iload_n 1, 1) := by decide +kernel
theorem dX7_empty_110 : decode cX7_empty 110 = .ok (.iload 4, 2) := by decide +kernel
theorem dX7_empty_112 : decode cX7_empty 112 = .ok (.iconst 4, 1) := by decide +kernel
theorem dX7_empty_113 : decode cX7_empty 113 = .ok (.irem, 1) := by decide +kernel
theorem dX7_empty_114 : decode cX7_empty 114 = .ok (.aload_n 0, 1) := by decide +kernel
theorem dX7_empty_115 : decode cX7_empty 115 = .ok (.getfield 47, 3) := by decide +kernel
theorem dX7_empty_118 : decode cX7_empty 118 = .ok (.iload 5, 2) := by decide +kernel
theorem dX7_empty_120 : decode cX7_empty 120 = .ok (.iaload, 1) := by decide +kernel
theorem dX7_empty_121 : decode cX7_empty 121 = .ok (.invokevirtual 152, 3) := by decide +kernel
theorem dX7_empty_124 : decode cX7_empty 124 = .ok (.aload_n 0, 1) := by decide +kernel
theorem dX7_empty_125 : decode cX7_empty 125 = .ok (.getfield 47, 3) := by decide +kernel
theorem dX7_empty_128 : decode cX7_empty 128 = .ok (.iload 5, 2) := by decide +kernel
theorem dX7_empty_130 : decode cX7_empty 130 = .ok (.iconst 0, 1) := by decide +kernel
theorem dX7_empty_131 : decode cX7_empty 131 = .ok (.iastore, 1) := by decide +kernel
theorem dX7_empty_132 : decode cX7_empty 132 = .ok (.iinc 4 1, 3) := by decide +kernel
theorem dX7_empty_135 : decode cX7_empty 135 = .ok (.goto (-49), 3) := by decide +kernel
theorem dX7_empty_138 : decode cX7_empty 138 = .ok (.aload_n 0, 1) := by decide +kernel
theorem dX7_empty_139 : decode cX7_empty 139 = .ok (.dup, 1) := by decide +kernel
theorem dX7_empty_140 : decode cX7_empty 140 = .ok (.getfield 156, 3) := by decide +kernel
theorem dX7_empty_143 : decode cX7_empty 143 = .ok (.iload_n 2, 1) := by decide +kernel
theorem dX7_empty_144 : decode cX7_empty 144 = .ok (.iadd, 1) := by decide +kernel
theorem dX7_empty_145 : decode cX7_empty 145 = .ok (.putfield 156, 3) := by decide +kernel
theorem dX7_empty_148 : decode cX7_empty 148 = .ok (.aload_n 0, 1) := by decide +kernel
theorem dX7_empty_149 : decode cX7_empty 149 = .ok (.getfield 74, 3) := by decide +kernel
theorem dX7_empty_152 : decode cX7_empty 152 = .ok (.aload_n 0, 1) := by decide +kernel
theorem dX7_empty_153 : decode cX7_empty 153 = .ok (.getfield 16, 3) := by decide +kernel
theorem dX7_empty_156 : decode cX7_empty 156 = .ok (.iload_n 1, 1) := by decide +kernel
theorem dX7_empty_157 : decode cX7_empty 157 = .ok (.iaload, 1) := by decide +kernel
theorem dX7_empty_158 : decode cX7_empty 158 = .ok (.dup2, 1) := by decide +kernel
theorem dX7_empty_159 : decode cX7_empty 159 = .ok (.iaload, 1) := by decide +kernel
theorem dX7_empty_160 : decode cX7_empty 160 = .ok (.iload_n 2, 1) := by decide +kernel
theorem dX7_empty_161 : decode cX7_empty 161 = .ok (.iadd, 1) := by decide +kernel
theorem dX7_empty_162 : decode cX7_empty 162 = .ok (.iastore, 1) := by decide +kernel
theorem dX7_empty_163 : decode cX7_empty 163 = .ok (.iload_n 2, 1) := by decide +kernel
theorem dX7_empty_164 : decode cX7_empty 164 = .ok (.ireturn, 1) := by decide +kernel
set_option maxRecDepth 20000 in
theorem ggX7_fills_X7_isFull : GoodIn wsX7_fills wsX7_isFull := goodIn_r _ [10, 11, 12, 13, 14, 15, 9, 16, 4, 17, 18, 19, 20, 21, 22, 23, 24, 25, 26, 27, 28, 29, 30, 31, 32, 33, 34, 35, 36, 37, 38, 39, 40, 41, 42, 43, 44, 45, 46, 47, 48, 49, 50, 51, 52, 53, 54, 55] (by decide +kernel) (by decide +kernel)
set_option maxRecDepth 20000 in
theorem gX7_fills_X7_isFull : GoodIn wsX7_fills (wsV RX7 146 RX7 yX7_isFull wsX7_isFull) := goodIn_app (goodIn_of _ (by decide +kernel)) ggX7_fills_X7_isFull
set_option maxRecDepth 20000 in
theorem ggX7_fills_X7_has : GoodIn wsX7_fills wsX7_has := goodIn_r _ [16, 4, 17, 18, 19, 20, 21, 22, 23, 24, 25, 26, 27, 28, 29, 30, 31, 32, 33, 34, 35, 36, 37, 38, 39, 40, 41, 42, 43, 44, 45, 46, 47, 48, 49, 50, 51, 52, 53, 54, 55] (by decide +kernel) (by decide +kernel)
set_option maxRecDepth 20000 in
theorem gX7_fills_X7_has : GoodIn wsX7_fills (wsV RX7 140 RX7 yX7_has wsX7_has) := goodIn_app (goodIn_of _ (by decide +kernel)) ggX7_fills_X7_has
theorem dX7_fills_0 : decode cX7_fills 0 = .ok (.iload_n 3, 1) := by decide +kernel
theorem dX7_fills_1 : decode cX7_fills 1 = .ok (.istore 4, 2) := by decide +kernel
theorem dX7_fills_3 : decode cX7_fills 3 = .ok (.iload 4, 2) := by decide +kernel
theorem dX7_fills_5 : decode cX7_fills 5 = .ok (.ifCond .le 149, 3) := by decide +kernel
theorem dX7_fills_8 : decode cX7_fills 8 = .ok (.iconst 0, 1) := by decide +kernel
theorem dX7_fills_9 : decode cX7_fills 9 = .ok (.istore 5, 2) := by decide +kernel
theorem dX7_fills_11 : decode cX7_fills 11 = .ok (.iload 5, 2) := by decide +kernel
theorem dX7_fills_13 : decode cX7_fills 13 = .ok (.aload_n 0, 1) := by decide +kernel
theorem dX7_fills_14 : decode cX7_fills 14 = .ok (.getfield 143, 3) := by decide +kernel
theorem dX7_fills_17 : decode cX7_fills 17 = .ok (.if_icmp .ge 34, 3) := by decide +kernel
theorem dX7_fills_20 : decode cX7_fills 20 = .ok (.aload_n 0, 1) := by decide +kernel
theorem dX7_fills_21 : decode cX7_fills 21 = .ok (.getfield 53, 3) := by decide +kernel
theorem dX7_fills_24 : decode cX7_fills 24 = .ok (.iload 5, 2) := by decide +kernel
theorem dX7_fills_26 : decode cX7_fills 26 = .ok (.iaload, 1) := by decide +kernel
theorem dX7_fills_27 : decode cX7_fills 27 = .ok (.aload_n 0, 1) := by decide +kernel
theorem dX7_fills_28 : decode cX7_fills 28 = .ok (.getfield 16, 3) := by decide +kernel
theorem dX7_fills_31 : decode cX7_fills 31 = .ok (.iload_n 1, 1) := by decide +kernel
theorem dX7_fills_32 : decode cX7_fills 32 = .ok (.iaload, 1) := by decide +kernel
theorem dX7_fills_33 : decode cX7_fills 33 = .ok (.if_icmp .ne 12, 3) := by decide +kernel
theorem dX7_fills_36 : decode cX7_fills 36 = .ok (.aload_n 0, 1) := by decide +kernel
theorem dX7_fills_37 : decode cX7_fills 37 = .ok (.iload 5, 2) := by decide +kernel
theorem dX7_fills_39 : decode cX7_fills 39 = .ok (.invokevirtual 146, 3) := by decide +kernel
theorem dX7_fills_42 : decode cX7_fills 42 = .ok (.ifCond .eq 9, 3) := by decide +kernel
theorem dX7_fills_45 : decode cX7_fills 45 = .ok (.iinc 5 1, 3) := by decide +kernel
theorem dX7_fills_48 : decode cX7_fills 48 = .ok (.goto (-37), 3) := by decide +kernel
theorem dX7_fills_51 : decode cX7_fills 51 = .ok (.iload 5, 2) := by decide +kernel
theorem dX7_fills_53 : decode cX7_fills 53 = .ok (.aload_n 0, 1) := by decide +kernel
theorem dX7_fills_54 : decode cX7_fills 54 = .ok (.getfield 143, 3) := by decide +kernel
theorem dX7_fills_57 : decode cX7_fills 57 = .ok (.if_icmp .ne 26, 3) := by decide +kernel
theorem dX7_fills_60 : decode cX7_fills 60 = .ok (.aload_n 0, 1) := by decide +kernel
theorem dX7_fills_61 : decode cX7_fills 61 = .ok (.getfield 53, 3) := by decide +kernel
theorem dX7_fills_64 : decode cX7_fills 64 = .ok (.iload 5, 2) := by decide +kernel
theorem dX7_fills_66 : decode cX7_fills 66 = .ok (.aload_n 0, 1) := by decide +kernel
theorem dX7_fills_67 : decode cX7_fills 67 = .ok (.getfield 16, 3) := by decide +kernel
theorem dX7_fills_70 : decode cX7_fills 70 = .ok (.iload_n 1, 1) := by decide +kernel
theorem dX7_fills_71 : decode cX7_fills 71 = .ok (.iaload, 1) := by decide +kernel
theorem dX7_fills_72 : decode cX7_fills 72 = .ok (.iastore, 1) := by decide +kernel
theorem dX7_fills_73 : decode cX7_fills 73 = .ok (.aload_n 0, 1) := by decide +kernel
theorem dX7_fills_74 : decode cX7_fills 74 = .ok (.dup, 1) := by decide +kernel
theorem dX7_fills_75 : decode cX7_fills 75 = .ok (.getfield 143, 3) := by decide +kernel
theorem dX7_fills_78 : decode cX7_fills 78 = .ok (.iconst 1, 1) := by decide +kernel
theorem dX7_fills_79 : decode cX7_fills 79 = .ok (.iadd, 1) := by decide +kernel
theorem dX7_fills_80 : decode cX7_fills 80 = .ok (.putfield 143, 3) := by decide +kernel
theorem dX7_fills_83 : decode cX7_fills 83 = .ok (.sipush 1000, 3) := by decide +kernel
theorem dX7_fills_86 : decode cX7_fills 86 = .ok (.aload_n 0, 1) := by decide +kernel
theorem dX7_fills_87 : decode cX7_fills 87 = .ok (.iload 5, 2) := by decide +kernel
theorem dX7_fills_89 : decode cX7_fills 89 = .ok (.invokevirtual 140, 3) := by decide +kernel
theorem dX7_fills_92 : decode cX7_fills 92 = .ok (.isub, 1) := by decide +kernel
theorem dX7_fills_93 : decode cX7_fills 93 = .ok (.istore 6, 2) := by decide +kernel
theorem dX7_fills_95 : decode cX7_fills 95 = .ok (.iload 4, 2) := by decide +kernel
theorem dX7_fills_97 : decode cX7_fills 97 = .ok (.iload 6, 2) := by decide +kernel
theorem dX7_fills_99 : decode cX7_fills 99 = .ok (.if_icmp .ge 8, 3) := by decide +kernel
theorem dX7_fills_102 : decode cX7_fills 102 = .ok (.iload 4, 2) := by decide +kernel
theorem dX7_fills_104 : decode cX7_fills 104 = .ok (.goto 5, 3) := by decide +kernel
theorem dX7_fills_107 : decode cX7_fills 107 = .ok (.iload 6, 2) := by decide +kernel
theorem dX7_fills_109 : decode cX7_fills 109 = .ok (.istore 7, 2) := by decide +kernel
theorem dX7_fills_111 : decode cX7_fills 111 = .ok (.aload_n 0, 1) := by decide +kernel
theorem dX7_fills_112 : decode cX7_fills 112 = .ok (.getfield 56, 3) := by decide +kernel
theorem dX7_fills_115 : decode cX7_fills 115 = .ok (.iconst 4, 1) := by decide +kernel
theorem dX7_fills_116 : decode cX7_fills 116 = .ok (.iload 5, 2) := by decide +kernel
theorem dX7_fills_118 : decode cX7_fills 118 = .ok (.imul, 1) := by decide +kernel
theorem dX7_fills_119 : decode cX7_fills 119 = .ok (.iload_n 2, 1) := by decide +kernel
theorem dX7_fills_120 : decode cX7_fills 120 = .ok (.iadd, 1) := by decide +kernel
theorem dX7_fills_121 : decode cX7_fills 121 = .ok (.dup2, 1) := by decide +kernel
theorem dX7_fills_122 : decode cX7_fills 122 = .ok (.iaload, 1) := by decide +kernel
theorem dX7_fills_123 : decode cX7_fills 123 = .ok (.iload 7, 2) := by decide +kernel
theorem dX7_fills_125 : decode cX7_fills 125 = .ok (.iadd, 1) := by decide +kernel
theorem dX7_fills_126 : decode cX7_fills 126 = .ok (.iastore, 1) := by decide +kernel
theorem dX7_fills_127 : decode cX7_fills 127 = .ok (.aload_n 0, 1) := by decide +kernel
theorem dX7_fills_128 : decode cX7_fills 128 = .ok (.getfield 59, 3) := by decide +kernel
theorem dX7_fills_131 : decode cX7_fills 131 = .ok (.bipush 60, 2) := by decide +kernel
theorem dX7_fills_133 : decode cX7_fills 133 = .ok (.iload 5, 2) := by decide +kernel
theorem dX7_fills_135 : decode cX7_fills 135 = .ok (.imul, 1) := by decide +kernel
theorem dX7_fills_136 : decode cX7_fills 136 = .ok (.iload_n 1, 1) := by decide +kernel
theorem dX7_fills_137 : decode cX7_fills 137 = .ok (.iadd, 1) := by decide +kernel
theorem dX7_fills_138 : decode cX7_fills 138 = .ok (.dup2, 1) := by decide +kernel
theorem dX7_fills_139 : decode cX7_fills 139 = .ok (.iaload, 1) := by decide +kernel
theorem dX7_fills_140 : decode cX7_fills 140 = .ok (.iload 7, 2) := by decide +kernel
theorem dX7_fills_142 : decode cX7_fills 142 = .ok (.iadd, 1) := by decide +kernel
theorem dX7_fills_143 : decode cX7_fills 143 = .ok (.iastore, 1) := by decide +kernel
theorem dX7_fills_144 : decode cX7_fills 144 = .ok (.iload 4, 2) := by decide +kernel
theorem dX7_fills_146 : decode cX7_fills 146 = .ok (.iload 7, 2) := by decide +kernel
theorem dX7_fills_148 : decode cX7_fills 148 = .ok (.isub, 1) := by decide +kernel
theorem dX7_fills_149 : decode cX7_fills 149 = .ok (.istore 4, 2) := by decide +kernel
theorem dX7_fills_151 : decode cX7_fills 151 = .ok (.goto (-148), 3) := by decide +kernel
theorem dX7_fills_154 : decode cX7_fills 154 = .ok (.return_, 1) := by decide +kernel
set_option maxRecDepth 20000 in
theorem ggX7_isBarrel_X7_in : GoodIn wsX7_isBarrel wsX7_in := goodIn_r _ [5] (by decide +kernel) (by decide +kernel)
set_option maxRecDepth 20000 in
theorem gX7_isBarrel_X7_in : GoodIn wsX7_isBarrel (va_wsS RX7 96 yX7_in wsX7_in) := goodIn_app (goodIn_of _ (by decide +kernel)) ggX7_isBarrel_X7_in
theorem dX7_isBarrel_0 : decode cX7_isBarrel 0 = .ok (.iload_n 1, 1) := by decide +kernel
theorem dX7_isBarrel_1 : decode cX7_isBarrel 1 = .ok (.iconst 0, 1) := by decide +kernel
theorem dX7_isBarrel_2 : decode cX7_isBarrel 2 = .ok (.aload_n 0, 1) := by decide +kernel
theorem dX7_isBarrel_3 : decode cX7_isBarrel 3 = .ok (.getfield 143, 3) := by decide +kernel
theorem dX7_isBarrel_6 : decode cX7_isBarrel 6 = .ok (.iconst 1, 1) := by decide +kernel
theorem dX7_isBarrel_7 : decode cX7_isBarrel 7 = .ok (.isub, 1) := by decide +kernel
theorem dX7_isBarrel_8 : decode cX7_isBarrel 8 = .ok (.invokestatic 96, 3) := by decide +kernel
theorem dX7_isBarrel_11 : decode cX7_isBarrel 11 = .ok (.ireturn, 1) := by decide +kernel
set_option maxRecDepth 20000 in
theorem ggX7_grade_X7_has : GoodIn wsX7_grade wsX7_has := goodIn_r _ [6, 1, 7, 8, 9, 10, 11, 12, 13, 14, 15, 16, 17, 18, 19, 20, 21, 22, 23, 24, 25, 26, 27, 28, 29, 30, 31, 32, 33, 34, 35, 36, 37, 38, 39, 40, 41, 42, 43, 44, 45] (by decide +kernel) (by decide +kernel)
set_option maxRecDepth 20000 in
theorem gX7_grade_X7_has : GoodIn wsX7_grade (wsV RX7 140 RX7 yX7_has wsX7_has) := goodIn_app (goodIn_of _ (by decide +kernel)) ggX7_grade_X7_has
theorem dX7_grade_0 : decode cX7_grade 0 = .ok (.iconst 0, 1) := by decide +kernel
theorem dX7_grade_1 : decode cX7_grade 1 = .ok (.istore_n 2, 1) := by decide +kernel
theorem dX7_grade_2 : decode cX7_grade 2 = .ok (.iconst 0, 1) := by decide +kernel
theorem dX7_grade_3 : decode cX7_grade 3 = .ok (.istore_n 3, 1) := by decide +kernel
theorem dX7_grade_4 : decode cX7_grade 4 = .ok (.iload_n 3, 1) := by decide +kernel
theorem dX7_grade_5 : decode cX7_grade 5 = .ok (.iconst 4, 1) := by decide +kernel
theorem dX7_grade_6 : decode cX7_grade 6 = .ok (.if_icmp .ge 24, 3) := by decide +kernel
theorem dX7_grade_9 : decode cX7_grade 9 = .ok (.iload_n 2, 1) := by decide +kernel
theorem dX7_grade_10 : decode cX7_grade 10 = .ok (.iload_n 3, 1) := by decide +kernel
theorem dX7_grade_11 : decode cX7_grade 11 = .ok (.aload_n 0, 1) := by decide +kernel
theorem dX7_grade_12 : decode cX7_grade 12 = .ok (.getfield 56, 3) := by decide +kernel
theorem dX7_grade_15 : decode cX7_grade 15 = .ok (.iconst 4, 1) := by decide +kernel
theorem dX7_grade_16 : decode cX7_grade 16 = .ok (.iload_n 1, 1) := by decide +kernel
theorem dX7_grade_17 : decode cX7_grade 17 = .ok (.imul, 1) := by decide +kernel
theorem dX7_grade_18 : decode cX7_grade 18 = .ok (.iload_n 3, 1) := by decide +kernel
theorem dX7_grade_19 : decode cX7_grade 19 = .ok (.iadd, 1) := by decide +kernel
theorem dX7_grade_20 : decode cX7_grade 20 = .ok (.iaload, 1) := by decide +kernel
theorem dX7_grade_21 : decode cX7_grade 21 = .ok (.imul, 1) := by decide +kernel
theorem dX7_grade_22 : decode cX7_grade 22 = .ok (.iadd, 1) := by decide +kernel
theorem dX7_grade_23 : decode cX7_grade 23 = .ok (.istore_n 2, 1) := by decide +kernel
theorem dX7_grade_24 : decode cX7_grade 24 = .ok (.iinc 3 1, 3) := by decide +kernel
theorem dX7_grade_27 : decode cX7_grade 27 = .ok (.goto (-23), 3) := by decide +kernel
theorem dX7_grade_30 : decode cX7_grade 30 = .ok (.iload_n 2, 1) := by decide +kernel
theorem dX7_grade_31 : decode cX7_grade 31 = .ok (.aload_n 0, 1) := by decide +kernel
theorem dX7_grade_32 : decode cX7_grade 32 = .ok (.iload_n 1, 1) := by decide +kernel
theorem dX7_grade_33 : decode cX7_grade 33 = .ok (.invokevirtual 140, 3) := by decide +kernel
theorem dX7_grade_36 : decode cX7_grade 36 = .ok (.idiv, 1) := by decide +kernel
theorem dX7_grade_37 : decode cX7_grade 37 = .ok (.ireturn, 1) := by decide +kernel
set_option maxRecDepth 20000 in
theorem ggX7_barrel_X7_isBarrel : GoodIn wsX7_barrel wsX7_isBarrel := goodIn_r _ [9, 10, 11, 12, 8, 13, 26, 27, 28, 29, 30, 31, 32, 33, 34, 35, 36, 37, 38, 39, 40, 41, 42, 43, 44, 45, 46, 47, 48, 49, 50, 51, 52, 53, 54, 55, 56, 57, 58, 59, 60, 61, 62, 63, 64] (by decide +kernel) (by decide +kernel)
set_option maxRecDepth 20000 in
theorem gX7_barrel_X7_isBarrel : GoodIn wsX7_barrel (wsV RX7 159 RX7 yX7_isBarrel wsX7_isBarrel) := goodIn_app (goodIn_of _ (by decide +kernel)) ggX7_barrel_X7_isBarrel
set_option maxRecDepth 20000 in
theorem ggX7_barrel_X7_in : GoodIn wsX7_barrel wsX7_in := goodIn_r _ [13] (by decide +kernel) (by decide +kernel)
set_option maxRecDepth 20000 in
theorem gX7_barrel_X7_in : GoodIn wsX7_barrel (va_wsS RX7 96 yX7_in wsX7_in) := goodIn_app (goodIn_of _ (by decide +kernel)) ggX7_barrel_X7_in
set_option maxRecDepth 20000 in
theorem ggX7_barrel_X7_has : GoodIn wsX7_barrel wsX7_has := goodIn_r _ [17, 1, 26, 27, 28, 29, 30, 31, 32, 33, 34, 35, 36, 37, 38, 39, 40, 41, 42, 43, 44, 45, 46, 47, 48, 49, 50, 51, 52, 53, 54, 55, 56, 57, 58, 59, 60, 61, 62, 63, 64] (by decide +kernel) (by decide +kernel)
set_option maxRecDepth 20000 in
theorem gX7_barrel_X7_has : GoodIn wsX7_barrel (wsV RX7 140 RX7 yX7_has wsX7_has) := goodIn_app (goodIn_of _ (by decide +kernel)) ggX7_barrel_X7_has
set_option maxRecDepth 20000 in
theorem ggX7_barrel_X7_grade : GoodIn wsX7_barrel wsX7_grade := goodIn_r _ [21, 1, 14, 15, 16, 8, 17, 26, 27, 28, 29, 30, 31, 32, 33, 34, 35, 36, 37, 38, 39, 40, 41, 42, 43, 44, 45, 46, 47, 48, 49, 50, 51, 52, 53, 54, 55, 56, 57, 58, 59, 60, 61, 62, 63, 64] (by decide +kernel) (by decide +kernel)
set_option maxRecDepth 20000 in
theorem gX7_barrel_X7_grade : GoodIn wsX7_barrel (wsV RX7 162 RX7 yX7_grade wsX7_grade) := goodIn_app (goodIn_of _ (by decide +kernel)) ggX7_barrel_X7_grade
set_option maxRecDepth 20000 in
theorem ggX7_barrel_X7_isFull : GoodIn wsX7_barrel wsX7_isFull := goodIn_r _ [25, 3, 4, 14, 15, 16, 8, 17, 1, 26, 27, 28, 29, 30, 31, 32, 33, 34, 35, 36, 37, 38, 39, 40, 41, 42, 43, 44, 45, 46, 47, 48, 49, 50, 51, 52, 53, 54, 55, 56, 57, 58, 59, 60, 61, 62, 63, 64] (by decide +kernel) (by decide +kernel)
set_option maxRecDepth 20000 in
theorem gX7_barrel_X7_isFull : GoodIn wsX7_barrel (wsV RX7 146 RX7 yX7_isFull wsX7_isFull) := goodIn_app (goodIn_of _ (by decide +kernel)) ggX7_barrel_X7_isFull
theorem dX7_barrel_0 : decode cX7_barrel 0 = .ok (.aload_n 0, 1) := by decide +kernel
theorem dX7_barrel_1 : decode cX7_barrel 1 = .ok (.iload_n 1, 1) := by decide +kernel
theorem dX7_barrel_2 : decode cX7_barrel 2 = .ok (.invokevirtual 159, 3) := by decide +kernel
theorem dX7_barrel_5 : decode cX7_barrel 5 = .ok (.ifCond .ne 5, 3) := by decide +kernel
theorem dX7_barrel_8 : decode cX7_barrel 8 = .ok (.iconst (-1), 1) := by decide +kernel
theorem dX7_barrel_9 : decode cX7_barrel 9 = .ok (.ireturn, 1) := by decide +kernel
theorem dX7_barrel_10 : decode cX7_barrel 10 = .ok (.iload_n 2, 1) := by decide +kernel
theorem dX7_barrel_11 : decode cX7_barrel 11 = .ok (.iconst 1, 1) := by decide +kernel
theorem dX7_barrel_12 : decode cX7_barrel 12 = .ok (.iconst 4, 1) := by decide +kernel
theorem dX7_barrel_13 : decode cX7_barrel 13 = .ok (.invokestatic 96, 3) := by decide +kernel
theorem dX7_barrel_16 : decode cX7_barrel 16 = .ok (.ifCond .eq 16, 3) := by decide +kernel
theorem dX7_barrel_19 : decode cX7_barrel 19 = .ok (.aload_n 0, 1) := by decide +kernel
theorem dX7_barrel_20 : decode cX7_barrel 20 = .ok (.getfield 56, 3) := by decide +kernel
theorem dX7_barrel_23 : decode cX7_barrel 23 = .ok (.iconst 4, 1) := by decide +kernel
theorem dX7_barrel_24 : decode cX7_barrel 24 = .ok (.iload_n 1, 1) := by decide +kernel
theorem dX7_barrel_25 : decode cX7_barrel 25 = .ok (.imul, 1) := by decide +kernel
theorem dX7_barrel_26 : decode cX7_barrel 26 = .ok (.iload_n 2, 1) := by decide +kernel
theorem dX7_barrel_27 : decode cX7_barrel 27 = .ok (.iadd, 1) := by decide +kernel
theorem dX7_barrel_28 : decode cX7_barrel 28 = .ok (.iconst 1, 1) := by decide +kernel
theorem dX7_barrel_29 : decode cX7_barrel 29 = .ok (.isub, 1) := by decide +kernel
theorem dX7_barrel_30 : decode cX7_barrel 30 = .ok (.iaload, 1) := by decide +kernel
theorem dX7_barrel_31 : decode cX7_barrel 31 = .ok (.ireturn, 1) := by decide +kernel
theorem dX7_barrel_32 : decode cX7_barrel 32 = .ok (.iload_n 2, 1) := by decide +kernel
theorem dX7_barrel_33 : decode cX7_barrel 33 = .ok (.tableswitch 118 0 9 #[55, 118, 118, 118, 118, 61, 67, 74, 88, 103], 55) := by decide +kernel
theorem dX7_barrel_88 : decode cX7_barrel 88 = .ok (.aload_n 0, 1) := by decide +kernel
theorem dX7_barrel_89 : decode cX7_barrel 89 = .ok (.iload_n 1, 1) := by decide +kernel
theorem dX7_barrel_90 : decode cX7_barrel 90 = .ok (.invokevirtual 140, 3) := by decide +kernel
theorem dX7_barrel_93 : decode cX7_barrel 93 = .ok (.ireturn, 1) := by decide +kernel
theorem dX7_barrel_94 : decode cX7_barrel 94 = .ok (.aload_n 0, 1) := by decide +kernel
theorem dX7_barrel_95 : decode cX7_barrel 95 = .ok (.iload_n 1, 1) := by decide +kernel
theorem dX7_barrel_96 : decode cX7_barrel 96 = .ok (.invokevirtual 162, 3) := by decide +kernel
theorem dX7_barrel_99 : decode cX7_barrel 99 = .ok (.ireturn, 1) := by decide +kernel
theorem dX7_barrel_100 : decode cX7_barrel 100 = .ok (.aload_n 0, 1) := by decide +kernel
theorem dX7_barrel_101 : decode cX7_barrel 101 = .ok (.getfield 53, 3) := by decide +kernel
theorem dX7_barrel_104 : decode cX7_barrel 104 = .ok (.iload_n 1, 1) := by decide +kernel
theorem dX7_barrel_105 : decode cX7_barrel 105 = .ok (.iaload, 1) := by decide +kernel
theorem dX7_barrel_106 : decode cX7_barrel 106 = .ok (.ireturn, 1) := by decide +kernel
theorem dX7_barrel_107 : decode cX7_barrel 107 = .ok (.aload_n 0, 1) := by decide +kernel
theorem dX7_barrel_108 : decode cX7_barrel 108 = .ok (.iload_n 1, 1) := by decide +kernel
theorem dX7_barrel_109 : decode cX7_barrel 109 = .ok (.invokevirtual 146, 3) := by decide +kernel
theorem dX7_barrel_112 : decode cX7_barrel 112 = .ok (.ifCond .eq 7, 3) := by decide +kernel
theorem dX7_barrel_115 : decode cX7_barrel 115 = .ok (.iconst 1, 1) := by decide +kernel
theorem dX7_barrel_116 : decode cX7_barrel 116 = .ok (.goto 4, 3) := by decide +kernel
theorem dX7_barrel_119 : decode cX7_barrel 119 = .ok (.iconst 0, 1) := by decide +kernel
theorem dX7_barrel_120 : decode cX7_barrel 120 = .ok (.ireturn, 1) := by decide +kernel
theorem dX7_barrel_121 : decode cX7_barrel 121 = .ok (.aload_n 0, 1) := by decide +kernel
theorem dX7_barrel_122 : decode cX7_barrel 122 = .ok (.getfield 62, 3) := by decide +kernel
theorem dX7_barrel_125 : decode cX7_barrel 125 = .ok (.iload_n 1, 1) := by decide +kernel
theorem dX7_barrel_126 : decode cX7_barrel 126 = .ok (.baload, 1) := by decide +kernel
theorem dX7_barrel_127 : decode cX7_barrel 127 = .ok (.ifCond .eq 7, 3) := by decide +kernel
theorem dX7_barrel_130 : decode cX7_barrel 130 = .ok (.iconst 1, 1) := by decide +kernel
theorem dX7_barrel_131 : decode cX7_barrel 131 = .ok (.goto 4, 3) := by decide +kernel
theorem dX7_barrel_134 : decode cX7_barrel 134 = .ok (.iconst 0, 1) := by decide +kernel
theorem dX7_barrel_135 : decode cX7_barrel 135 = .ok (.ireturn, 1) := by decide +kernel
theorem dX7_barrel_136 : decode cX7_barrel 136 = .ok (.aload_n 0, 1) := by decide +kernel
theorem dX7_barrel_137 : decode cX7_barrel 137 = .ok (.getfield 65, 3) := by decide +kernel
theorem dX7_barrel_140 : decode cX7_barrel 140 = .ok (.iload_n 1, 1) := by decide +kernel
theorem dX7_barrel_141 : decode cX7_barrel 141 = .ok (.baload, 1) := by decide +kernel
theorem dX7_barrel_142 : decode cX7_barrel 142 = .ok (.ifCond .eq 7, 3) := by decide +kernel
theorem dX7_barrel_145 : decode cX7_barrel 145 = .ok (.iconst 1, 1) := by decide +kernel
theorem dX7_barrel_146 : decode cX7_barrel 146 = .ok (.goto 4, 3) := by decide +kernel
theorem dX7_barrel_149 : decode cX7_barrel 149 = .ok (.iconst 0, 1) := by decide +kernel
theorem dX7_barrel_150 : decode cX7_barrel 150 = .ok (.ireturn, 1) := by decide +kernel
theorem dX7_barrel_151 : decode cX7_barrel 151 = .ok (.iconst (-1), 1) := by decide +kernel
theorem dX7_barrel_152 : decode cX7_barrel 152 = .ok (.ireturn, 1) := by decide +kernel
set_option maxRecDepth 20000 in
theorem ggX7_from_X7_isBarrel : GoodIn wsX7_from wsX7_isBarrel := goodIn_r _ [6, 7, 8, 9, 5, 10, 16, 17, 18, 19, 20, 21, 22, 23, 24, 25, 26, 27, 28, 29, 30, 31, 32, 33, 34, 35, 36, 37, 38, 39, 40, 41, 42, 43, 44, 45, 46, 47, 48, 49, 50, 51, 52, 53, 54] (by decide +kernel) (by decide +kernel)
set_option maxRecDepth 20000 in
theorem gX7_from_X7_isBarrel : GoodIn wsX7_from (wsV RX7 159 RX7 yX7_isBarrel wsX7_isBarrel) := goodIn_app (goodIn_of _ (by decide +kernel)) ggX7_from_X7_isBarrel
set_option maxRecDepth 20000 in
theorem ggX7_from_X7_isTree : GoodIn wsX7_from wsX7_isTree := goodIn_r _ [14, 15, 8, 9, 5, 10, 16, 17, 18, 19, 20, 21, 22, 23, 24, 25, 26, 27, 28, 29, 30, 31, 32, 33, 34, 35, 36, 37, 38, 39, 40, 41, 42, 43, 44, 45, 46, 47, 48, 49, 50, 51, 52, 53, 54] (by decide +kernel) (by decide +kernel)
set_option maxRecDepth 20000 in
theorem gX7_from_X7_isTree : GoodIn wsX7_from (wsV RX7 103 RX7 yX7_isTree wsX7_isTree) := goodIn_app (goodIn_of _ (by decide +kernel)) ggX7_from_X7_isTree
theorem dX7_from_0 : decode cX7_from 0 = .ok (.aload_n 0, 1) := by decide +kernel
theorem dX7_from_1 : decode cX7_from 1 = .ok (.iload_n 1, 1) := by decide +kernel
theorem dX7_from_2 : decode cX7_from 2 = .ok (.invokevirtual 159, 3) := by decide +kernel
theorem dX7_from_5 : decode cX7_from 5 = .ok (.ifCond .eq 25, 3) := by decide +kernel
theorem dX7_from_8 : decode cX7_from 8 = .ok (.aload_n 0, 1) := by decide +kernel
theorem dX7_from_9 : decode cX7_from 9 = .ok (.iload_n 2, 1) := by decide +kernel
theorem dX7_from_10 : decode cX7_from 10 = .ok (.invokevirtual 103, 3) := by decide +kernel
theorem dX7_from_13 : decode cX7_from 13 = .ok (.ifCond .eq 17, 3) := by decide +kernel
theorem dX7_from_16 : decode cX7_from 16 = .ok (.aload_n 0, 1) := by decide +kernel
theorem dX7_from_17 : decode cX7_from 17 = .ok (.getfield 59, 3) := by decide +kernel
theorem dX7_from_20 : decode cX7_from 20 = .ok (.bipush 60, 2) := by decide +kernel
theorem dX7_from_22 : decode cX7_from 22 = .ok (.iload_n 1, 1) := by decide +kernel
theorem dX7_from_23 : decode cX7_from 23 = .ok (.imul, 1) := by decide +kernel
theorem dX7_from_24 : decode cX7_from 24 = .ok (.iload_n 2, 1) := by decide +kernel
theorem dX7_from_25 : decode cX7_from 25 = .ok (.iadd, 1) := by decide +kernel
theorem dX7_from_26 : decode cX7_from 26 = .ok (.iaload, 1) := by decide +kernel
theorem dX7_from_27 : decode cX7_from 27 = .ok (.goto 4, 3) := by decide +kernel
theorem dX7_from_30 : decode cX7_from 30 = .ok (.iconst (-1), 1) := by decide +kernel
theorem dX7_from_31 : decode cX7_from 31 = .ok (.ireturn, 1) := by decide +kernel
set_option maxRecDepth 20000 in
theorem ggX7_still_X7_isBarrel : GoodIn wsX7_still wsX7_isBarrel := goodIn_r _ [9, 10, 11, 12, 8, 13, 23, 24, 25, 26, 27, 28, 29, 30, 31, 32, 33, 34, 35, 36, 37, 38, 39, 40, 41, 42, 43, 44, 45, 46, 47, 48, 49, 50, 51, 52, 53, 54, 55, 56, 57, 58, 59, 60, 61] (by decide +kernel) (by decide +kernel)
set_option maxRecDepth 20000 in
theorem gX7_still_X7_isBarrel : GoodIn wsX7_still (wsV RX7 159 RX7 yX7_isBarrel wsX7_isBarrel) := goodIn_app (goodIn_of _ (by decide +kernel)) ggX7_still_X7_isBarrel
set_option maxRecDepth 20000 in
theorem ggX7_still_X7_has : GoodIn wsX7_still wsX7_has := goodIn_r _ [17, 18, 23, 24, 25, 26, 27, 28, 29, 30, 31, 32, 33, 34, 35, 36, 37, 38, 39, 40, 41, 42, 43, 44, 45, 46, 47, 48, 49, 50, 51, 52, 53, 54, 55, 56, 57, 58, 59, 60, 61] (by decide +kernel) (by decide +kernel)
set_option maxRecDepth 20000 in
theorem gX7_still_X7_has : GoodIn wsX7_still (wsV RX7 140 RX7 yX7_has wsX7_has) := goodIn_app (goodIn_of _ (by decide +kernel)) ggX7_still_X7_has
set_option maxRecDepth 20000 in
theorem ggX7_still_X7_grade : GoodIn wsX7_still wsX7_grade := goodIn_r _ [22, 18, 14, 15, 16, 8, 17, 23, 24, 25, 26, 27, 28, 29, 30, 31, 32, 33, 34, 35, 36, 37, 38, 39, 40, 41, 42, 43, 44, 45, 46, 47, 48, 49, 50, 51, 52, 53, 54, 55, 56, 57, 58, 59, 60, 61] (by decide +kernel) (by decide +kernel)
set_option maxRecDepth 20000 in
theorem gX7_still_X7_grade : GoodIn wsX7_still (wsV RX7 162 RX7 yX7_grade wsX7_grade) := goodIn_app (goodIn_of _ (by decide +kernel)) ggX7_still_X7_grade
theorem dX7_still_0 : decode cX7_still 0 = .ok (.aload_n 0, 1) := by decide +kernel
theorem dX7_still_1 : decode cX7_still 1 = .ok (.iload_n 1, 1) := by decide +kernel
theorem dX7_still_2 : decode cX7_still 2 = .ok (.invokevirtual 159, 3) := by decide +kernel
theorem dX7_still_5 : decode cX7_still 5 = .ok (.ifCond .eq 21, 3) := by decide +kernel
theorem dX7_still_8 : decode cX7_still 8 = .ok (.aload_n 0, 1) := by decide +kernel
theorem dX7_still_9 : decode cX7_still 9 = .ok (.getfield 62, 3) := by decide +kernel
theorem dX7_still_12 : decode cX7_still 12 = .ok (.iload_n 1, 1) := by decide +kernel
theorem dX7_still_13 : decode cX7_still 13 = .ok (.baload, 1) := by decide +kernel
