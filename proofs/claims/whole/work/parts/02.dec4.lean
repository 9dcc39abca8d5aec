theorem dX7_still_14 : decode cX7_still 14 = .ok (.ifCond .ne 12, 3) := by decide +kernel
theorem dX7_still_17 : decode cX7_still 17 = .ok (.aload_n 0, 1) := by decide +kernel
theorem dX7_still_18 : decode cX7_still 18 = .ok (.getfield 65, 3) := by decide +kernel
theorem dX7_still_21 : decode cX7_still 21 = .ok (.iload_n 1, 1) := by decide +kernel
theorem dX7_still_22 : decode cX7_still 22 = .ok (.baload, 1) := by decide +kernel
theorem dX7_still_23 : decode cX7_still 23 = .ok (.ifCond .eq 5, 3) := by decide +kernel
theorem dX7_still_26 : decode cX7_still 26 = .ok (.iconst (-1), 1) := by decide +kernel
theorem dX7_still_27 : decode cX7_still 27 = .ok (.ireturn, 1) := by decide +kernel
theorem dX7_still_28 : decode cX7_still 28 = .ok (.aload_n 0, 1) := by decide +kernel
theorem dX7_still_29 : decode cX7_still 29 = .ok (.getfield 62, 3) := by decide +kernel
theorem dX7_still_32 : decode cX7_still 32 = .ok (.iload_n 1, 1) := by decide +kernel
theorem dX7_still_33 : decode cX7_still 33 = .ok (.iconst 1, 1) := by decide +kernel
theorem dX7_still_34 : decode cX7_still 34 = .ok (.bastore, 1) := by decide +kernel
theorem dX7_still_35 : decode cX7_still 35 = .ok (.aload_n 0, 1) := by decide +kernel
theorem dX7_still_36 : decode cX7_still 36 = .ok (.iload_n 1, 1) := by decide +kernel
theorem dX7_still_37 : decode cX7_still 37 = .ok (.invokevirtual 140, 3) := by decide +kernel
theorem dX7_still_40 : decode cX7_still 40 = .ok (.iconst 5, 1) := by decide +kernel
theorem dX7_still_41 : decode cX7_still 41 = .ok (.idiv, 1) := by decide +kernel
theorem dX7_still_42 : decode cX7_still 42 = .ok (.istore_n 2, 1) := by decide +kernel
theorem dX7_still_43 : decode cX7_still 43 = .ok (.aload_n 0, 1) := by decide +kernel
theorem dX7_still_44 : decode cX7_still 44 = .ok (.iload_n 1, 1) := by decide +kernel
theorem dX7_still_45 : decode cX7_still 45 = .ok (.invokevirtual 140, 3) := by decide +kernel
theorem dX7_still_48 : decode cX7_still 48 = .ok (.bipush 70, 2) := by decide +kernel
theorem dX7_still_50 : decode cX7_still 50 = .ok (.iconst 5, 1) := by decide +kernel
theorem dX7_still_51 : decode cX7_still 51 = .ok (.aload_n 0, 1) := by decide +kernel
theorem dX7_still_52 : decode cX7_still 52 = .ok (.iload_n 1, 1) := by decide +kernel
theorem dX7_still_53 : decode cX7_still 53 = .ok (.invokevirtual 162, 3) := by decide +kernel
theorem dX7_still_56 : decode cX7_still 56 = .ok (.imul, 1) := by decide +kernel
theorem dX7_still_57 : decode cX7_still 57 = .ok (.isub, 1) := by decide +kernel
theorem dX7_still_58 : decode cX7_still 58 = .ok (.imul, 1) := by decide +kernel
theorem dX7_still_59 : decode cX7_still 59 = .ok (.bipush 100, 2) := by decide +kernel
theorem dX7_still_61 : decode cX7_still 61 = .ok (.idiv, 1) := by decide +kernel
theorem dX7_still_62 : decode cX7_still 62 = .ok (.istore_n 3, 1) := by decide +kernel
theorem dX7_still_63 : decode cX7_still 63 = .ok (.aload_n 0, 1) := by decide +kernel
theorem dX7_still_64 : decode cX7_still 64 = .ok (.dup, 1) := by decide +kernel
theorem dX7_still_65 : decode cX7_still 65 = .ok (.getfield 165, 3) := by decide +kernel
theorem dX7_still_68 : decode cX7_still 68 = .ok (.iload_n 2, 1) := by decide +kernel
theorem dX7_still_69 : decode cX7_still 69 = .ok (.iadd, 1) := by decide +kernel
theorem dX7_still_70 : decode cX7_still 70 = .ok (.putfield 165, 3) := by decide +kernel
theorem dX7_still_73 : decode cX7_still 73 = .ok (.aload_n 0, 1) := by decide +kernel
theorem dX7_still_74 : decode cX7_still 74 = .ok (.dup, 1) := by decide +kernel
theorem dX7_still_75 : decode cX7_still 75 = .ok (.getfield 168, 3) := by decide +kernel
theorem dX7_still_78 : decode cX7_still 78 = .ok (.iload_n 3, 1) := by decide +kernel
theorem dX7_still_79 : decode cX7_still 79 = .ok (.iadd, 1) := by decide +kernel
theorem dX7_still_80 : decode cX7_still 80 = .ok (.putfield 168, 3) := by decide +kernel
theorem dX7_still_83 : decode cX7_still 83 = .ok (.sipush 10000, 3) := by decide +kernel
theorem dX7_still_86 : decode cX7_still 86 = .ok (.iload_n 2, 1) := by decide +kernel
theorem dX7_still_87 : decode cX7_still 87 = .ok (.imul, 1) := by decide +kernel
theorem dX7_still_88 : decode cX7_still 88 = .ok (.iload_n 3, 1) := by decide +kernel
theorem dX7_still_89 : decode cX7_still 89 = .ok (.iadd, 1) := by decide +kernel
theorem dX7_still_90 : decode cX7_still 90 = .ok (.ireturn, 1) := by decide +kernel
set_option maxRecDepth 20000 in
theorem ggX7_isWood_X7_in : GoodIn wsX7_isWood wsX7_in := goodIn_r _ [4] (by decide +kernel) (by decide +kernel)
set_option maxRecDepth 20000 in
theorem gX7_isWood_X7_in : GoodIn wsX7_isWood (va_wsS RX7 96 yX7_in wsX7_in) := goodIn_app (goodIn_of _ (by decide +kernel)) ggX7_isWood_X7_in
theorem dX7_isWood_0 : decode cX7_isWood 0 = .ok (.iload_n 0, 1) := by decide +kernel
theorem dX7_isWood_1 : decode cX7_isWood 1 = .ok (.iconst 0, 1) := by decide +kernel
theorem dX7_isWood_2 : decode cX7_isWood 2 = .ok (.iconst 5, 1) := by decide +kernel
theorem dX7_isWood_3 : decode cX7_isWood 3 = .ok (.invokestatic 96, 3) := by decide +kernel
theorem dX7_isWood_6 : decode cX7_isWood 6 = .ok (.ireturn, 1) := by decide +kernel
set_option maxRecDepth 20000 in
theorem ggX7_let_X7_isWood : GoodIn wsX7_let wsX7_isWood := goodIn_r _ [8, 9, 10, 7, 11] (by decide +kernel) (by decide +kernel)
set_option maxRecDepth 20000 in
theorem gX7_let_X7_isWood : GoodIn wsX7_let (va_wsS RX7 171 yX7_isWood wsX7_isWood) := goodIn_app (goodIn_of _ (by decide +kernel)) ggX7_let_X7_isWood
set_option maxRecDepth 20000 in
theorem ggX7_let_X7_in : GoodIn wsX7_let wsX7_in := goodIn_r _ [11] (by decide +kernel) (by decide +kernel)
set_option maxRecDepth 20000 in
theorem gX7_let_X7_in : GoodIn wsX7_let (va_wsS RX7 96 yX7_in wsX7_in) := goodIn_app (goodIn_of _ (by decide +kernel)) ggX7_let_X7_in
theorem dX7_let_0 : decode cX7_let 0 = .ok (.iload_n 1, 1) := by decide +kernel
theorem dX7_let_1 : decode cX7_let 1 = .ok (.invokestatic 171, 3) := by decide +kernel
theorem dX7_let_4 : decode cX7_let 4 = .ok (.ifCond .eq 13, 3) := by decide +kernel
theorem dX7_let_7 : decode cX7_let 7 = .ok (.iload_n 2, 1) := by decide +kernel
theorem dX7_let_8 : decode cX7_let 8 = .ok (.iconst 0, 1) := by decide +kernel
theorem dX7_let_9 : decode cX7_let 9 = .ok (.bipush 100, 2) := by decide +kernel
theorem dX7_let_11 : decode cX7_let 11 = .ok (.invokestatic 96, 3) := by decide +kernel
theorem dX7_let_14 : decode cX7_let 14 = .ok (.ifCond .ne 5, 3) := by decide +kernel
theorem dX7_let_17 : decode cX7_let 17 = .ok (.iconst 0, 1) := by decide +kernel
theorem dX7_let_18 : decode cX7_let 18 = .ok (.ireturn, 1) := by decide +kernel
theorem dX7_let_19 : decode cX7_let 19 = .ok (.aload_n 0, 1) := by decide +kernel
theorem dX7_let_20 : decode cX7_let 20 = .ok (.getfield 68, 3) := by decide +kernel
theorem dX7_let_23 : decode cX7_let 23 = .ok (.iload_n 1, 1) := by decide +kernel
theorem dX7_let_24 : decode cX7_let 24 = .ok (.iconst 1, 1) := by decide +kernel
theorem dX7_let_25 : decode cX7_let 25 = .ok (.bastore, 1) := by decide +kernel
theorem dX7_let_26 : decode cX7_let 26 = .ok (.aload_n 0, 1) := by decide +kernel
theorem dX7_let_27 : decode cX7_let 27 = .ok (.getfield 71, 3) := by decide +kernel
theorem dX7_let_30 : decode cX7_let 30 = .ok (.iload_n 1, 1) := by decide +kernel
theorem dX7_let_31 : decode cX7_let 31 = .ok (.iload_n 2, 1) := by decide +kernel
theorem dX7_let_32 : decode cX7_let 32 = .ok (.iastore, 1) := by decide +kernel
theorem dX7_let_33 : decode cX7_let 33 = .ok (.aload_n 0, 1) := by decide +kernel
theorem dX7_let_34 : decode cX7_let 34 = .ok (.getfield 74, 3) := by decide +kernel
theorem dX7_let_37 : decode cX7_let 37 = .ok (.iload_n 1, 1) := by decide +kernel
theorem dX7_let_38 : decode cX7_let 38 = .ok (.iconst 0, 1) := by decide +kernel
theorem dX7_let_39 : decode cX7_let 39 = .ok (.iastore, 1) := by decide +kernel
theorem dX7_let_40 : decode cX7_let 40 = .ok (.aload_n 0, 1) := by decide +kernel
theorem dX7_let_41 : decode cX7_let 41 = .ok (.getfield 77, 3) := by decide +kernel
theorem dX7_let_44 : decode cX7_let 44 = .ok (.iload_n 1, 1) := by decide +kernel
theorem dX7_let_45 : decode cX7_let 45 = .ok (.iconst 0, 1) := by decide +kernel
theorem dX7_let_46 : decode cX7_let 46 = .ok (.iastore, 1) := by decide +kernel
theorem dX7_let_47 : decode cX7_let 47 = .ok (.iconst 1, 1) := by decide +kernel
theorem dX7_let_48 : decode cX7_let 48 = .ok (.ireturn, 1) := by decide +kernel
set_option maxRecDepth 20000 in
theorem ggX7_due_X7_isWood : GoodIn wsX7_due wsX7_isWood := goodIn_r _ [9, 10, 11, 8, 12] (by decide +kernel) (by decide +kernel)
set_option maxRecDepth 20000 in
theorem gX7_due_X7_isWood : GoodIn wsX7_due (va_wsS RX7 171 yX7_isWood wsX7_isWood) := goodIn_app (goodIn_of _ (by decide +kernel)) ggX7_due_X7_isWood
theorem dX7_due_0 : decode cX7_due 0 = .ok (.iload_n 1, 1) := by decide +kernel
theorem dX7_due_1 : decode cX7_due 1 = .ok (.invokestatic 171, 3) := by decide +kernel
theorem dX7_due_4 : decode cX7_due 4 = .ok (.ifCond .eq 42, 3) := by decide +kernel
theorem dX7_due_7 : decode cX7_due 7 = .ok (.aload_n 0, 1) := by decide +kernel
theorem dX7_due_8 : decode cX7_due 8 = .ok (.getfield 68, 3) := by decide +kernel
theorem dX7_due_11 : decode cX7_due 11 = .ok (.iload_n 1, 1) := by decide +kernel
theorem dX7_due_12 : decode cX7_due 12 = .ok (.baload, 1) := by decide +kernel
theorem dX7_due_13 : decode cX7_due 13 = .ok (.ifCond .eq 33, 3) := by decide +kernel
theorem dX7_due_16 : decode cX7_due 16 = .ok (.aload_n 0, 1) := by decide +kernel
theorem dX7_due_17 : decode cX7_due 17 = .ok (.getfield 74, 3) := by decide +kernel
theorem dX7_due_20 : decode cX7_due 20 = .ok (.iload_n 1, 1) := by decide +kernel
theorem dX7_due_21 : decode cX7_due 21 = .ok (.iaload, 1) := by decide +kernel
theorem dX7_due_22 : decode cX7_due 22 = .ok (.i2l, 1) := by decide +kernel
theorem dX7_due_23 : decode cX7_due 23 = .ok (.aload_n 0, 1) := by decide +kernel
theorem dX7_due_24 : decode cX7_due 24 = .ok (.getfield 71, 3) := by decide +kernel
theorem dX7_due_27 : decode cX7_due 27 = .ok (.iload_n 1, 1) := by decide +kernel
theorem dX7_due_28 : decode cX7_due 28 = .ok (.iaload, 1) := by decide +kernel
theorem dX7_due_29 : decode cX7_due 29 = .ok (.i2l, 1) := by decide +kernel
theorem dX7_due_30 : decode cX7_due 30 = .ok (.lmul, 1) := by decide +kernel
theorem dX7_due_31 : decode cX7_due 31 = .ok (.ldc2_w 174, 3) := by decide +kernel
theorem dX7_due_34 : decode cX7_due 34 = .ok (.ldiv, 1) := by decide +kernel
theorem dX7_due_35 : decode cX7_due 35 = .ok (.l2i, 1) := by decide +kernel
theorem dX7_due_36 : decode cX7_due 36 = .ok (.aload_n 0, 1) := by decide +kernel
theorem dX7_due_37 : decode cX7_due 37 = .ok (.getfield 77, 3) := by decide +kernel
theorem dX7_due_40 : decode cX7_due 40 = .ok (.iload_n 1, 1) := by decide +kernel
theorem dX7_due_41 : decode cX7_due 41 = .ok (.iaload, 1) := by decide +kernel
theorem dX7_due_42 : decode cX7_due 42 = .ok (.isub, 1) := by decide +kernel
theorem dX7_due_43 : decode cX7_due 43 = .ok (.goto 4, 3) := by decide +kernel
theorem dX7_due_46 : decode cX7_due 46 = .ok (.iconst 0, 1) := by decide +kernel
theorem dX7_due_47 : decode cX7_due 47 = .ok (.ireturn, 1) := by decide +kernel
set_option maxRecDepth 20000 in
theorem ggX7_pay_X7_isBarrel : GoodIn wsX7_pay wsX7_isBarrel := goodIn_r _ [11, 12, 13, 14, 10, 15, 31, 32, 33, 34, 35, 36, 37, 38, 39, 40, 41, 42, 43, 44, 45, 46, 47, 48, 49, 50, 51, 52, 53, 54, 55, 56, 57, 58, 59, 60, 61, 62, 63, 64, 65, 66, 67, 68, 69] (by decide +kernel) (by decide +kernel)
set_option maxRecDepth 20000 in
theorem gX7_pay_X7_isBarrel : GoodIn wsX7_pay (wsV RX7 159 RX7 yX7_isBarrel wsX7_isBarrel) := goodIn_app (goodIn_of _ (by decide +kernel)) ggX7_pay_X7_isBarrel
set_option maxRecDepth 20000 in
theorem ggX7_pay_X7_has : GoodIn wsX7_pay wsX7_has := goodIn_r _ [19, 20, 31, 32, 33, 34, 35, 36, 37, 38, 39, 40, 41, 42, 43, 44, 45, 46, 47, 48, 49, 50, 51, 52, 53, 54, 55, 56, 57, 58, 59, 60, 61, 62, 63, 64, 65, 66, 67, 68, 69] (by decide +kernel) (by decide +kernel)
set_option maxRecDepth 20000 in
theorem gX7_pay_X7_has : GoodIn wsX7_pay (wsV RX7 140 RX7 yX7_has wsX7_has) := goodIn_app (goodIn_of _ (by decide +kernel)) ggX7_pay_X7_has
set_option maxRecDepth 20000 in
theorem ggX7_pay_X7_due : GoodIn wsX7_pay wsX7_due := goodIn_r _ [24, 3, 25, 26, 27, 6, 28, 29, 10, 30, 13, 14, 15, 31, 32, 33, 34, 35, 36, 37, 38, 39, 40, 41, 42, 43, 44, 45, 46, 47, 48, 49, 50, 51, 52, 53, 54, 55, 56, 57, 58, 59, 60, 61, 62, 63, 64, 65, 66, 67, 68, 69] (by decide +kernel) (by decide +kernel)
set_option maxRecDepth 20000 in
theorem gX7_pay_X7_due : GoodIn wsX7_pay (wsV RX7 177 RX7 yX7_due wsX7_due) := goodIn_app (goodIn_of _ (by decide +kernel)) ggX7_pay_X7_due
theorem dX7_pay_0 : decode cX7_pay 0 = .ok (.aload_n 0, 1) := by decide +kernel
theorem dX7_pay_1 : decode cX7_pay 1 = .ok (.iload_n 1, 1) := by decide +kernel
theorem dX7_pay_2 : decode cX7_pay 2 = .ok (.invokevirtual 159, 3) := by decide +kernel
theorem dX7_pay_5 : decode cX7_pay 5 = .ok (.ifCond .eq 35, 3) := by decide +kernel
theorem dX7_pay_8 : decode cX7_pay 8 = .ok (.aload_n 0, 1) := by decide +kernel
theorem dX7_pay_9 : decode cX7_pay 9 = .ok (.getfield 62, 3) := by decide +kernel
theorem dX7_pay_12 : decode cX7_pay 12 = .ok (.iload_n 1, 1) := by decide +kernel
theorem dX7_pay_13 : decode cX7_pay 13 = .ok (.baload, 1) := by decide +kernel
theorem dX7_pay_14 : decode cX7_pay 14 = .ok (.ifCond .ne 26, 3) := by decide +kernel
theorem dX7_pay_17 : decode cX7_pay 17 = .ok (.aload_n 0, 1) := by decide +kernel
theorem dX7_pay_18 : decode cX7_pay 18 = .ok (.getfield 65, 3) := by decide +kernel
theorem dX7_pay_21 : decode cX7_pay 21 = .ok (.iload_n 1, 1) := by decide +kernel
theorem dX7_pay_22 : decode cX7_pay 22 = .ok (.baload, 1) := by decide +kernel
theorem dX7_pay_23 : decode cX7_pay 23 = .ok (.ifCond .ne 17, 3) := by decide +kernel
theorem dX7_pay_26 : decode cX7_pay 26 = .ok (.aload_n 0, 1) := by decide +kernel
theorem dX7_pay_27 : decode cX7_pay 27 = .ok (.getfield 68, 3) := by decide +kernel
theorem dX7_pay_30 : decode cX7_pay 30 = .ok (.aload_n 0, 1) := by decide +kernel
theorem dX7_pay_31 : decode cX7_pay 31 = .ok (.getfield 53, 3) := by decide +kernel
theorem dX7_pay_34 : decode cX7_pay 34 = .ok (.iload_n 1, 1) := by decide +kernel
theorem dX7_pay_35 : decode cX7_pay 35 = .ok (.iaload, 1) := by decide +kernel
theorem dX7_pay_36 : decode cX7_pay 36 = .ok (.baload, 1) := by decide +kernel
theorem dX7_pay_37 : decode cX7_pay 37 = .ok (.ifCond .ne 6, 3) := by decide +kernel
theorem dX7_pay_40 : decode cX7_pay 40 = .ok (.ldc 176, 2) := by decide +kernel
theorem dX7_pay_42 : decode cX7_pay 42 = .ok (.ireturn, 1) := by decide +kernel
theorem dX7_pay_43 : decode cX7_pay 43 = .ok (.aload_n 0, 1) := by decide +kernel
theorem dX7_pay_44 : decode cX7_pay 44 = .ok (.getfield 65, 3) := by decide +kernel
theorem dX7_pay_47 : decode cX7_pay 47 = .ok (.iload_n 1, 1) := by decide +kernel
theorem dX7_pay_48 : decode cX7_pay 48 = .ok (.iconst 1, 1) := by decide +kernel
theorem dX7_pay_49 : decode cX7_pay 49 = .ok (.bastore, 1) := by decide +kernel
theorem dX7_pay_50 : decode cX7_pay 50 = .ok (.aload_n 0, 1) := by decide +kernel
theorem dX7_pay_51 : decode cX7_pay 51 = .ok (.getfield 77, 3) := by decide +kernel
theorem dX7_pay_54 : decode cX7_pay 54 = .ok (.aload_n 0, 1) := by decide +kernel
theorem dX7_pay_55 : decode cX7_pay 55 = .ok (.getfield 53, 3) := by decide +kernel
theorem dX7_pay_58 : decode cX7_pay 58 = .ok (.iload_n 1, 1) := by decide +kernel
theorem dX7_pay_59 : decode cX7_pay 59 = .ok (.iaload, 1) := by decide +kernel
theorem dX7_pay_60 : decode cX7_pay 60 = .ok (.dup2, 1) := by decide +kernel
theorem dX7_pay_61 : decode cX7_pay 61 = .ok (.iaload, 1) := by decide +kernel
theorem dX7_pay_62 : decode cX7_pay 62 = .ok (.aload_n 0, 1) := by decide +kernel
theorem dX7_pay_63 : decode cX7_pay 63 = .ok (.iload_n 1, 1) := by decide +kernel
theorem dX7_pay_64 : decode cX7_pay 64 = .ok (.invokevirtual 140, 3) := by decide +kernel
theorem dX7_pay_67 : decode cX7_pay 67 = .ok (.iadd, 1) := by decide +kernel
theorem dX7_pay_68 : decode cX7_pay 68 = .ok (.iastore, 1) := by decide +kernel
theorem dX7_pay_69 : decode cX7_pay 69 = .ok (.aload_n 0, 1) := by decide +kernel
theorem dX7_pay_70 : decode cX7_pay 70 = .ok (.aload_n 0, 1) := by decide +kernel
theorem dX7_pay_71 : decode cX7_pay 71 = .ok (.getfield 53, 3) := by decide +kernel
theorem dX7_pay_74 : decode cX7_pay 74 = .ok (.iload_n 1, 1) := by decide +kernel
theorem dX7_pay_75 : decode cX7_pay 75 = .ok (.iaload, 1) := by decide +kernel
theorem dX7_pay_76 : decode cX7_pay 76 = .ok (.invokevirtual 177, 3) := by decide +kernel
theorem dX7_pay_79 : decode cX7_pay 79 = .ok (.ireturn, 1) := by decide +kernel
set_option maxRecDepth 20000 in
theorem ggX7_burn_X7_isWood : GoodIn wsX7_burn wsX7_isWood := goodIn_r _ [10, 11, 12, 9, 13] (by decide +kernel) (by decide +kernel)
set_option maxRecDepth 20000 in
theorem gX7_burn_X7_isWood : GoodIn wsX7_burn (va_wsS RX7 171 yX7_isWood wsX7_isWood) := goodIn_app (goodIn_of _ (by decide +kernel)) ggX7_burn_X7_isWood
theorem dX7_burn_0 : decode cX7_burn 0 = .ok (.iload_n 1, 1) := by decide +kernel
theorem dX7_burn_1 : decode cX7_burn 1 = .ok (.invokestatic 171, 3) := by decide +kernel
theorem dX7_burn_4 : decode cX7_burn 4 = .ok (.ifCond .ne 5, 3) := by decide +kernel
theorem dX7_burn_7 : decode cX7_burn 7 = .ok (.iconst (-1), 1) := by decide +kernel
theorem dX7_burn_8 : decode cX7_burn 8 = .ok (.ireturn, 1) := by decide +kernel
theorem dX7_burn_9 : decode cX7_burn 9 = .ok (.iconst 0, 1) := by decide +kernel
theorem dX7_burn_10 : decode cX7_burn 10 = .ok (.istore_n 2, 1) := by decide +kernel
theorem dX7_burn_11 : decode cX7_burn 11 = .ok (.iconst 0, 1) := by decide +kernel
theorem dX7_burn_12 : decode cX7_burn 12 = .ok (.istore_n 3, 1) := by decide +kernel
theorem dX7_burn_13 : decode cX7_burn 13 = .ok (.iload_n 3, 1) := by decide +kernel
theorem dX7_burn_14 : decode cX7_burn 14 = .ok (.aload_n 0, 1) := by decide +kernel
theorem dX7_burn_15 : decode cX7_burn 15 = .ok (.getfield 92, 3) := by decide +kernel
theorem dX7_burn_18 : decode cX7_burn 18 = .ok (.if_icmp .ge 88, 3) := by decide +kernel
theorem dX7_burn_21 : decode cX7_burn 21 = .ok (.aload_n 0, 1) := by decide +kernel
theorem dX7_burn_22 : decode cX7_burn 22 = .ok (.getfield 16, 3) := by decide +kernel
theorem dX7_burn_25 : decode cX7_burn 25 = .ok (.iload_n 3, 1) := by decide +kernel
theorem dX7_burn_26 : decode cX7_burn 26 = .ok (.iaload, 1) := by decide +kernel
theorem dX7_burn_27 : decode cX7_burn 27 = .ok (.iload_n 1, 1) := by decide +kernel
theorem dX7_burn_28 : decode cX7_burn 28 = .ok (.if_icmp .ne 72, 3) := by decide +kernel
theorem dX7_burn_31 : decode cX7_burn 31 = .ok (.aload_n 0, 1) := by decide +kernel
theorem dX7_burn_32 : decode cX7_burn 32 = .ok (.getfield 28, 3) := by decide +kernel
theorem dX7_burn_35 : decode cX7_burn 35 = .ok (.iload_n 3, 1) := by decide +kernel
theorem dX7_burn_36 : decode cX7_burn 36 = .ok (.baload, 1) := by decide +kernel
theorem dX7_burn_37 : decode cX7_burn 37 = .ok (.ifCond .eq 6, 3) := by decide +kernel
theorem dX7_burn_40 : decode cX7_burn 40 = .ok (.goto 60, 3) := by decide +kernel
theorem dX7_burn_43 : decode cX7_burn 43 = .ok (.aload_n 0, 1) := by decide +kernel
theorem dX7_burn_44 : decode cX7_burn 44 = .ok (.getfield 28, 3) := by decide +kernel
theorem dX7_burn_47 : decode cX7_burn 47 = .ok (.iload_n 3, 1) := by decide +kernel
theorem dX7_burn_48 : decode cX7_burn 48 = .ok (.iconst 1, 1) := by decide +kernel
theorem dX7_burn_49 : decode cX7_burn 49 = .ok (.bastore, 1) := by decide +kernel
theorem dX7_burn_50 : decode cX7_burn 50 = .ok (.iinc 2 1, 3) := by decide +kernel
theorem dX7_burn_53 : decode cX7_burn 53 = .ok (.bipush 12, 2) := by decide +kernel
theorem dX7_burn_55 : decode cX7_burn 55 = .ok (.iload_n 3, 1) := by decide +kernel
theorem dX7_burn_56 : decode cX7_burn 56 = .ok (.imul, 1) := by decide +kernel
theorem dX7_burn_57 : decode cX7_burn 57 = .ok (.istore 4, 2) := by decide +kernel
theorem dX7_burn_59 : decode cX7_burn 59 = .ok (.iload 4, 2) := by decide +kernel
theorem dX7_burn_61 : decode cX7_burn 61 = .ok (.bipush 12, 2) := by decide +kernel
theorem dX7_burn_63 : decode cX7_burn 63 = .ok (.iload_n 3, 1) := by decide +kernel
theorem dX7_burn_64 : decode cX7_burn 64 = .ok (.iconst 1, 1) := by decide +kernel
theorem dX7_burn_65 : decode cX7_burn 65 = .ok (.iadd, 1) := by decide +kernel
theorem dX7_burn_66 : decode cX7_burn 66 = .ok (.imul, 1) := by decide +kernel
theorem dX7_burn_67 : decode cX7_burn 67 = .ok (.if_icmp .ge 33, 3) := by decide +kernel
theorem dX7_burn_70 : decode cX7_burn 70 = .ok (.aload_n 0, 1) := by decide +kernel
theorem dX7_burn_71 : decode cX7_burn 71 = .ok (.dup, 1) := by decide +kernel
theorem dX7_burn_72 : decode cX7_burn 72 = .ok (.getfield 180, 3) := by decide +kernel
theorem dX7_burn_75 : decode cX7_burn 75 = .ok (.aload_n 0, 1) := by decide +kernel
theorem dX7_burn_76 : decode cX7_burn 76 = .ok (.getfield 47, 3) := by decide +kernel
theorem dX7_burn_79 : decode cX7_burn 79 = .ok (.iload 4, 2) := by decide +kernel
theorem dX7_burn_81 : decode cX7_burn 81 = .ok (.iaload, 1) := by decide +kernel
theorem dX7_burn_82 : decode cX7_burn 82 = .ok (.iadd, 1) := by decide +kernel
theorem dX7_burn_83 : decode cX7_burn 83 = .ok (.putfield 180, 3) := by decide +kernel
theorem dX7_burn_86 : decode cX7_burn 86 = .ok (.aload_n 0, 1) := by decide +kernel
theorem dX7_burn_87 : decode cX7_burn 87 = .ok (.getfield 47, 3) := by decide +kernel
theorem dX7_burn_90 : decode cX7_burn 90 = .ok (.iload 4, 2) := by decide +kernel
theorem dX7_burn_92 : decode cX7_burn 92 = .ok (.iconst 0, 1) := by decide +kernel
theorem dX7_burn_93 : decode cX7_burn 93 = .ok (.iastore, 1) := by decide +kernel
theorem dX7_burn_94 : decode cX7_burn 94 = .ok (.iinc 4 1, 3) := by decide +kernel
theorem dX7_burn_97 : decode cX7_burn 97 = .ok (.goto (-38), 3) := by decide +kernel
theorem dX7_burn_100 : decode cX7_burn 100 = .ok (.iinc 3 1, 3) := by decide +kernel
theorem dX7_burn_103 : decode cX7_burn 103 = .ok (.goto (-90), 3) := by decide +kernel
theorem dX7_burn_106 : decode cX7_burn 106 = .ok (.aload_n 0, 1) := by decide +kernel
theorem dX7_burn_107 : decode cX7_burn 107 = .ok (.getfield 68, 3) := by decide +kernel
theorem dX7_burn_110 : decode cX7_burn 110 = .ok (.iload_n 1, 1) := by decide +kernel
theorem dX7_burn_111 : decode cX7_burn 111 = .ok (.iconst 0, 1) := by decide +kernel
theorem dX7_burn_112 : decode cX7_burn 112 = .ok (.bastore, 1) := by decide +kernel
theorem dX7_burn_113 : decode cX7_burn 113 = .ok (.iload_n 2, 1) := by decide +kernel
theorem dX7_burn_114 : decode cX7_burn 114 = .ok (.ireturn, 1) := by decide +kernel
theorem dX7_chooses_0 : decode cX7_chooses 0 = .ok (.iconst 0, 1) := by decide +kernel
theorem dX7_chooses_1 : decode cX7_chooses 1 = .ok (.istore_n 3, 1) := by decide +kernel
theorem dX7_chooses_2 : decode cX7_chooses 2 = .ok (.iload_n 1, 1) := by decide +kernel
theorem dX7_chooses_3 : decode cX7_chooses 3 = .ok (.ifCond .lt 21, 3) := by decide +kernel
theorem dX7_chooses_6 : decode cX7_chooses 6 = .ok (.iload_n 1, 1) := by decide +kernel
theorem dX7_chooses_7 : decode cX7_chooses 7 = .ok (.bipush 30, 2) := by decide +kernel
theorem dX7_chooses_9 : decode cX7_chooses 9 = .ok (.ishr, 1) := by decide +kernel
theorem dX7_chooses_10 : decode cX7_chooses 10 = .ok (.ifCond .ne 14, 3) := by decide +kernel
theorem dX7_chooses_13 : decode cX7_chooses 13 = .ok (.iload_n 2, 1) := by decide +kernel
theorem dX7_chooses_14 : decode cX7_chooses 14 = .ok (.ifCond .lt 10, 3) := by decide +kernel
theorem dX7_chooses_17 : decode cX7_chooses 17 = .ok (.iload_n 2, 1) := by decide +kernel
theorem dX7_chooses_18 : decode cX7_chooses 18 = .ok (.bipush 30, 2) := by decide +kernel
theorem dX7_chooses_20 : decode cX7_chooses 20 = .ok (.ishr, 1) := by decide +kernel
theorem dX7_chooses_21 : decode cX7_chooses 21 = .ok (.ifCond .eq 5, 3) := by decide +kernel
theorem dX7_chooses_24 : decode cX7_chooses 24 = .ok (.iconst (-1), 1) := by decide +kernel
theorem dX7_chooses_25 : decode cX7_chooses 25 = .ok (.ireturn, 1) := by decide +kernel
theorem dX7_chooses_26 : decode cX7_chooses 26 = .ok (.iconst 0, 1) := by decide +kernel
theorem dX7_chooses_27 : decode cX7_chooses 27 = .ok (.istore 4, 2) := by decide +kernel
theorem dX7_chooses_29 : decode cX7_chooses 29 = .ok (.iload 4, 2) := by decide +kernel
theorem dX7_chooses_31 : decode cX7_chooses 31 = .ok (.bipush 60, 2) := by decide +kernel
theorem dX7_chooses_33 : decode cX7_chooses 33 = .ok (.if_icmp .ge 66, 3) := by decide +kernel
theorem dX7_chooses_36 : decode cX7_chooses 36 = .ok (.iload 4, 2) := by decide +kernel
theorem dX7_chooses_38 : decode cX7_chooses 38 = .ok (.bipush 30, 2) := by decide +kernel
theorem dX7_chooses_40 : decode cX7_chooses 40 = .ok (.if_icmp .ge 10, 3) := by decide +kernel
theorem dX7_chooses_43 : decode cX7_chooses 43 = .ok (.iload_n 1, 1) := by decide +kernel
theorem dX7_chooses_44 : decode cX7_chooses 44 = .ok (.iload 4, 2) := by decide +kernel
theorem dX7_chooses_46 : decode cX7_chooses 46 = .ok (.ishr, 1) := by decide +kernel
theorem dX7_chooses_47 : decode cX7_chooses 47 = .ok (.goto 10, 3) := by decide +kernel
theorem dX7_chooses_50 : decode cX7_chooses 50 = .ok (.iload_n 2, 1) := by decide +kernel
theorem dX7_chooses_51 : decode cX7_chooses 51 = .ok (.iload 4, 2) := by decide +kernel
theorem dX7_chooses_53 : decode cX7_chooses 53 = .ok (.bipush 30, 2) := by decide +kernel
theorem dX7_chooses_55 : decode cX7_chooses 55 = .ok (.isub, 1) := by decide +kernel
theorem dX7_chooses_56 : decode cX7_chooses 56 = .ok (.ishr, 1) := by decide +kernel
theorem dX7_chooses_57 : decode cX7_chooses 57 = .ok (.iconst 1, 1) := by decide +kernel
theorem dX7_chooses_58 : decode cX7_chooses 58 = .ok (.iand, 1) := by decide +kernel
theorem dX7_chooses_59 : decode cX7_chooses 59 = .ok (.ifCond .ne 6, 3) := by decide +kernel
theorem dX7_chooses_62 : decode cX7_chooses 62 = .ok (.goto 31, 3) := by decide +kernel
theorem dX7_chooses_65 : decode cX7_chooses 65 = .ok (.iload 4, 2) := by decide +kernel
theorem dX7_chooses_67 : decode cX7_chooses 67 = .ok (.aload_n 0, 1) := by decide +kernel
theorem dX7_chooses_68 : decode cX7_chooses 68 = .ok (.getfield 92, 3) := by decide +kernel
theorem dX7_chooses_71 : decode cX7_chooses 71 = .ok (.if_icmp .ge 9, 3) := by decide +kernel
theorem dX7_chooses_74 : decode cX7_chooses 74 = .ok (.iload_n 3, 1) := by decide +kernel
theorem dX7_chooses_75 : decode cX7_chooses 75 = .ok (.bipush 6, 2) := by decide +kernel
theorem dX7_chooses_77 : decode cX7_chooses 77 = .ok (.if_icmp .ne 5, 3) := by decide +kernel
theorem dX7_chooses_80 : decode cX7_chooses 80 = .ok (.iconst (-1), 1) := by decide +kernel
theorem dX7_chooses_81 : decode cX7_chooses 81 = .ok (.ireturn, 1) := by decide +kernel
theorem dX7_chooses_82 : decode cX7_chooses 82 = .ok (.aload_n 0, 1) := by decide +kernel
theorem dX7_chooses_83 : decode cX7_chooses 83 = .ok (.getfield 80, 3) := by decide +kernel
theorem dX7_chooses_86 : decode cX7_chooses 86 = .ok (.iload_n 3, 1) := by decide +kernel
theorem dX7_chooses_87 : decode cX7_chooses 87 = .ok (.iload 4, 2) := by decide +kernel
theorem dX7_chooses_89 : decode cX7_chooses 89 = .ok (.iastore, 1) := by decide +kernel
theorem dX7_chooses_90 : decode cX7_chooses 90 = .ok (.iinc 3 1, 3) := by decide +kernel
theorem dX7_chooses_93 : decode cX7_chooses 93 = .ok (.iinc 4 1, 3) := by decide +kernel
theorem dX7_chooses_96 : decode cX7_chooses 96 = .ok (.goto (-67), 3) := by decide +kernel
theorem dX7_chooses_99 : decode cX7_chooses 99 = .ok (.iload_n 3, 1) := by decide +kernel
theorem dX7_chooses_100 : decode cX7_chooses 100 = .ok (.ifCond .ne 7, 3) := by decide +kernel
theorem dX7_chooses_103 : decode cX7_chooses 103 = .ok (.iconst (-1), 1) := by decide +kernel
theorem dX7_chooses_104 : decode cX7_chooses 104 = .ok (.goto 4, 3) := by decide +kernel
theorem dX7_chooses_107 : decode cX7_chooses 107 = .ok (.iload_n 3, 1) := by decide +kernel
theorem dX7_chooses_108 : decode cX7_chooses 108 = .ok (.ireturn, 1) := by decide +kernel
set_option maxRecDepth 20000 in
theorem ggX7_foresees_X7_strength : GoodIn wsX7_foresees wsX7_strength := goodIn_r _ [14] (by decide +kernel) (by decide +kernel)
set_option maxRecDepth 20000 in
theorem gX7_foresees_X7_strength : GoodIn wsX7_foresees (va_wsS RX7 121 yX7_strength wsX7_strength) := goodIn_app (goodIn_of _ (by decide +kernel)) ggX7_foresees_X7_strength
set_option maxRecDepth 20000 in
theorem ggX7_foresees_X7_gradeOf : GoodIn wsX7_foresees wsX7_gradeOf := goodIn_r _ [18, 19, 20, 21, 22, 23, 24, 25, 26, 27, 28, 29, 30, 31, 32, 33, 34, 35, 36, 37, 38, 39, 40, 41, 42, 43, 44, 45, 46, 47, 48, 49, 50, 51, 52, 53, 54, 55, 56, 57, 58] (by decide +kernel) (by decide +kernel)
set_option maxRecDepth 20000 in
theorem gX7_foresees_X7_gradeOf : GoodIn wsX7_foresees (wsV RX7 127 RX7 yX7_gradeOf wsX7_gradeOf) := goodIn_app (goodIn_of _ (by decide +kernel)) ggX7_foresees_X7_gradeOf
theorem dX7_foresees_0 : decode cX7_foresees 0 = .ok (.aload_n 0, 1) := by decide +kernel
theorem dX7_foresees_1 : decode cX7_foresees 1 = .ok (.getfield 80, 3) := by decide +kernel
theorem dX7_foresees_4 : decode cX7_foresees 4 = .ok (.iload_n 1, 1) := by decide +kernel
theorem dX7_foresees_5 : decode cX7_foresees 5 = .ok (.iaload, 1) := by decide +kernel
theorem dX7_foresees_6 : decode cX7_foresees 6 = .ok (.istore_n 2, 1) := by decide +kernel
theorem dX7_foresees_7 : decode cX7_foresees 7 = .ok (.bipush 12, 2) := by decide +kernel
theorem dX7_foresees_9 : decode cX7_foresees 9 = .ok (.newarray .int, 2) := by decide +kernel
theorem dX7_foresees_11 : decode cX7_foresees 11 = .ok (.astore_n 3, 1) := by decide +kernel
theorem dX7_foresees_12 : decode cX7_foresees 12 = .ok (.iconst 0, 1) := by decide +kernel
theorem dX7_foresees_13 : decode cX7_foresees 13 = .ok (.istore 4, 2) := by decide +kernel
theorem dX7_foresees_15 : decode cX7_foresees 15 = .ok (.iload 4, 2) := by decide +kernel
theorem dX7_foresees_17 : decode cX7_foresees 17 = .ok (.bipush 12, 2) := by decide +kernel
theorem dX7_foresees_19 : decode cX7_foresees 19 = .ok (.if_icmp .ge 25, 3) := by decide +kernel
theorem dX7_foresees_22 : decode cX7_foresees 22 = .ok (.aload_n 3, 1) := by decide +kernel
theorem dX7_foresees_23 : decode cX7_foresees 23 = .ok (.iload 4, 2) := by decide +kernel
theorem dX7_foresees_25 : decode cX7_foresees 25 = .ok (.aload_n 0, 1) := by decide +kernel
theorem dX7_foresees_26 : decode cX7_foresees 26 = .ok (.getfield 47, 3) := by decide +kernel
theorem dX7_foresees_29 : decode cX7_foresees 29 = .ok (.bipush 12, 2) := by decide +kernel
theorem dX7_foresees_31 : decode cX7_foresees 31 = .ok (.iload_n 2, 1) := by decide +kernel
theorem dX7_foresees_32 : decode cX7_foresees 32 = .ok (.imul, 1) := by decide +kernel
theorem dX7_foresees_33 : decode cX7_foresees 33 = .ok (.iload 4, 2) := by decide +kernel
theorem dX7_foresees_35 : decode cX7_foresees 35 = .ok (.iadd, 1) := by decide +kernel
theorem dX7_foresees_36 : decode cX7_foresees 36 = .ok (.iaload, 1) := by decide +kernel
theorem dX7_foresees_37 : decode cX7_foresees 37 = .ok (.iastore, 1) := by decide +kernel
theorem dX7_foresees_38 : decode cX7_foresees 38 = .ok (.iinc 4 1, 3) := by decide +kernel
theorem dX7_foresees_41 : decode cX7_foresees 41 = .ok (.goto (-26), 3) := by decide +kernel
theorem dX7_foresees_44 : decode cX7_foresees 44 = .ok (.iconst 0, 1) := by decide +kernel
theorem dX7_foresees_45 : decode cX7_foresees 45 = .ok (.istore 4, 2) := by decide +kernel
theorem dX7_foresees_47 : decode cX7_foresees 47 = .ok (.iconst 0, 1) := by decide +kernel
theorem dX7_foresees_48 : decode cX7_foresees 48 = .ok (.istore 5, 2) := by decide +kernel
theorem dX7_foresees_50 : decode cX7_foresees 50 = .ok (.iload 5, 2) := by decide +kernel
theorem dX7_foresees_52 : decode cX7_foresees 52 = .ok (.bipush 24, 2) := by decide +kernel
theorem dX7_foresees_54 : decode cX7_foresees 54 = .ok (.if_icmp .ge 237, 3) := by decide +kernel
theorem dX7_foresees_57 : decode cX7_foresees 57 = .ok (.aload_n 0, 1) := by decide +kernel
theorem dX7_foresees_58 : decode cX7_foresees 58 = .ok (.getfield 83, 3) := by decide +kernel
theorem dX7_foresees_61 : decode cX7_foresees 61 = .ok (.bipush 24, 2) := by decide +kernel
theorem dX7_foresees_63 : decode cX7_foresees 63 = .ok (.iload_n 1, 1) := by decide +kernel
theorem dX7_foresees_64 : decode cX7_foresees 64 = .ok (.imul, 1) := by decide +kernel
theorem dX7_foresees_65 : decode cX7_foresees 65 = .ok (.iload 5, 2) := by decide +kernel
theorem dX7_foresees_67 : decode cX7_foresees 67 = .ok (.iadd, 1) := by decide +kernel
theorem dX7_foresees_68 : decode cX7_foresees 68 = .ok (.iload 4, 2) := by decide +kernel
theorem dX7_foresees_70 : decode cX7_foresees 70 = .ok (.iastore, 1) := by decide +kernel
theorem dX7_foresees_71 : decode cX7_foresees 71 = .ok (.aload_n 0, 1) := by decide +kernel
theorem dX7_foresees_72 : decode cX7_foresees 72 = .ok (.getfield 100, 3) := by decide +kernel
theorem dX7_foresees_75 : decode cX7_foresees 75 = .ok (.iload 5, 2) := by decide +kernel
theorem dX7_foresees_77 : decode cX7_foresees 77 = .ok (.iadd, 1) := by decide +kernel
theorem dX7_foresees_78 : decode cX7_foresees 78 = .ok (.istore 6, 2) := by decide +kernel
theorem dX7_foresees_80 : decode cX7_foresees 80 = .ok (.iconst 0, 1) := by decide +kernel
theorem dX7_foresees_81 : decode cX7_foresees 81 = .ok (.istore 7, 2) := by decide +kernel
theorem dX7_foresees_83 : decode cX7_foresees 83 = .ok (.iload 7, 2) := by decide +kernel
theorem dX7_foresees_85 : decode cX7_foresees 85 = .ok (.aload_n 0, 1) := by decide +kernel
theorem dX7_foresees_86 : decode cX7_foresees 86 = .ok (.getfield 32, 3) := by decide +kernel
theorem dX7_foresees_89 : decode cX7_foresees 89 = .ok (.iload_n 2, 1) := by decide +kernel
theorem dX7_foresees_90 : decode cX7_foresees 90 = .ok (.iaload, 1) := by decide +kernel
theorem dX7_foresees_91 : decode cX7_foresees 91 = .ok (.if_icmp .ge 194, 3) := by decide +kernel
theorem dX7_foresees_94 : decode cX7_foresees 94 = .ok (.iload 6, 2) := by decide +kernel
theorem dX7_foresees_96 : decode cX7_foresees 96 = .ok (.sipush 3650, 3) := by decide +kernel
theorem dX7_foresees_99 : decode cX7_foresees 99 = .ok (.if_icmp .ge 186, 3) := by decide +kernel
theorem dX7_foresees_102 : decode cX7_foresees 102 = .ok (.iconst 3, 1) := by decide +kernel
theorem dX7_foresees_103 : decode cX7_foresees 103 = .ok (.iload_n 2, 1) := by decide +kernel
theorem dX7_foresees_104 : decode cX7_foresees 104 = .ok (.imul, 1) := by decide +kernel
theorem dX7_foresees_105 : decode cX7_foresees 105 = .ok (.iload 7, 2) := by decide +kernel
theorem dX7_foresees_107 : decode cX7_foresees 107 = .ok (.iadd, 1) := by decide +kernel
theorem dX7_foresees_108 : decode cX7_foresees 108 = .ok (.istore 8, 2) := by decide +kernel
theorem dX7_foresees_110 : decode cX7_foresees 110 = .ok (.iconst 0, 1) := by decide +kernel
theorem dX7_foresees_111 : decode cX7_foresees 111 = .ok (.istore 9, 2) := by decide +kernel
theorem dX7_foresees_113 : decode cX7_foresees 113 = .ok (.iconst 0, 1) := by decide +kernel
theorem dX7_foresees_114 : decode cX7_foresees 114 = .ok (.istore 10, 2) := by decide +kernel
theorem dX7_foresees_116 : decode cX7_foresees 116 = .ok (.iload 10, 2) := by decide +kernel
theorem dX7_foresees_118 : decode cX7_foresees 118 = .ok (.iconst 4, 1) := by decide +kernel
theorem dX7_foresees_119 : decode cX7_foresees 119 = .ok (.if_icmp .ge 23, 3) := by decide +kernel
theorem dX7_foresees_122 : decode cX7_foresees 122 = .ok (.iload 9, 2) := by decide +kernel
theorem dX7_foresees_124 : decode cX7_foresees 124 = .ok (.aload_n 3, 1) := by decide +kernel
theorem dX7_foresees_125 : decode cX7_foresees 125 = .ok (.iconst 4, 1) := by decide +kernel
theorem dX7_foresees_126 : decode cX7_foresees 126 = .ok (.iload 7, 2) := by decide +kernel
theorem dX7_foresees_128 : decode cX7_foresees 128 = .ok (.imul, 1) := by decide +kernel
theorem dX7_foresees_129 : decode cX7_foresees 129 = .ok (.iload 10, 2) := by decide +kernel
theorem dX7_foresees_131 : decode cX7_foresees 131 = .ok (.iadd, 1) := by decide +kernel
theorem dX7_foresees_132 : decode cX7_foresees 132 = .ok (.iaload, 1) := by decide +kernel
theorem dX7_foresees_133 : decode cX7_foresees 133 = .ok (.iadd, 1) := by decide +kernel
theorem dX7_foresees_134 : decode cX7_foresees 134 = .ok (.istore 9, 2) := by decide +kernel
theorem dX7_foresees_136 : decode cX7_foresees 136 = .ok (.iinc 10 1, 3) := by decide +kernel
theorem dX7_foresees_139 : decode cX7_foresees 139 = .ok (.goto (-23), 3) := by decide +kernel
theorem dX7_foresees_142 : decode cX7_foresees 142 = .ok (.aload_n 0, 1) := by decide +kernel
theorem dX7_foresees_143 : decode cX7_foresees 143 = .ok (.getfield 28, 3) := by decide +kernel
theorem dX7_foresees_146 : decode cX7_foresees 146 = .ok (.iload_n 2, 1) := by decide +kernel
theorem dX7_foresees_147 : decode cX7_foresees 147 = .ok (.baload, 1) := by decide +kernel
theorem dX7_foresees_148 : decode cX7_foresees 148 = .ok (.ifCond .eq 7, 3) := by decide +kernel
theorem dX7_foresees_151 : decode cX7_foresees 151 = .ok (.iconst 0, 1) := by decide +kernel
theorem dX7_foresees_152 : decode cX7_foresees 152 = .ok (.goto 24, 3) := by decide +kernel
theorem dX7_foresees_155 : decode cX7_foresees 155 = .ok (.aload_n 0, 1) := by decide +kernel
theorem dX7_foresees_156 : decode cX7_foresees 156 = .ok (.getfield 9, 3) := by decide +kernel
theorem dX7_foresees_159 : decode cX7_foresees 159 = .ok (.iload 6, 2) := by decide +kernel
theorem dX7_foresees_161 : decode cX7_foresees 161 = .ok (.iaload, 1) := by decide +kernel
theorem dX7_foresees_162 : decode cX7_foresees 162 = .ok (.iload 6, 2) := by decide +kernel
theorem dX7_foresees_164 : decode cX7_foresees 164 = .ok (.aload_n 0, 1) := by decide +kernel
theorem dX7_foresees_165 : decode cX7_foresees 165 = .ok (.getfield 41, 3) := by decide +kernel
theorem dX7_foresees_168 : decode cX7_foresees 168 = .ok (.iload 8, 2) := by decide +kernel
theorem dX7_foresees_170 : decode cX7_foresees 170 = .ok (.iaload, 1) := by decide +kernel
theorem dX7_foresees_171 : decode cX7_foresees 171 = .ok (.isub, 1) := by decide +kernel
theorem dX7_foresees_172 : decode cX7_foresees 172 = .ok (.invokestatic 121, 3) := by decide +kernel
theorem dX7_foresees_175 : decode cX7_foresees 175 = .ok (.imul, 1) := by decide +kernel
theorem dX7_foresees_176 : decode cX7_foresees 176 = .ok (.istore 10, 2) := by decide +kernel
theorem dX7_foresees_178 : decode cX7_foresees 178 = .ok (.iload 10, 2) := by decide +kernel
theorem dX7_foresees_180 : decode cX7_foresees 180 = .ok (.sipush 400, 3) := by decide +kernel
theorem dX7_foresees_183 : decode cX7_foresees 183 = .ok (.iload 9, 2) := by decide +kernel
theorem dX7_foresees_185 : decode cX7_foresees 185 = .ok (.isub, 1) := by decide +kernel
theorem dX7_foresees_186 : decode cX7_foresees 186 = .ok (.if_icmp .ge 8, 3) := by decide +kernel
theorem dX7_foresees_189 : decode cX7_foresees 189 = .ok (.iload 10, 2) := by decide +kernel
theorem dX7_foresees_191 : decode cX7_foresees 191 = .ok (.goto 9, 3) := by decide +kernel
theorem dX7_foresees_194 : decode cX7_foresees 194 = .ok (.sipush 400, 3) := by decide +kernel
theorem dX7_foresees_197 : decode cX7_foresees 197 = .ok (.iload 9, 2) := by decide +kernel
theorem dX7_foresees_199 : decode cX7_foresees 199 = .ok (.isub, 1) := by decide +kernel
theorem dX7_foresees_200 : decode cX7_foresees 200 = .ok (.istore 11, 2) := by decide +kernel
theorem dX7_foresees_202 : decode cX7_foresees 202 = .ok (.aload_n 3, 1) := by decide +kernel
theorem dX7_foresees_203 : decode cX7_foresees 203 = .ok (.iconst 4, 1) := by decide +kernel
theorem dX7_foresees_204 : decode cX7_foresees 204 = .ok (.iload 7, 2) := by decide +kernel
theorem dX7_foresees_206 : decode cX7_foresees 206 = .ok (.imul, 1) := by decide +kernel
theorem dX7_foresees_207 : decode cX7_foresees 207 = .ok (.aload_n 0, 1) := by decide +kernel
theorem dX7_foresees_208 : decode cX7_foresees 208 = .ok (.iload 8, 2) := by decide +kernel
theorem dX7_foresees_210 : decode cX7_foresees 210 = .ok (.iload 6, 2) := by decide +kernel
theorem dX7_foresees_212 : decode cX7_foresees 212 = .ok (.invokevirtual 127, 3) := by decide +kernel
theorem dX7_foresees_215 : decode cX7_foresees 215 = .ok (.iadd, 1) := by decide +kernel
theorem dX7_foresees_216 : decode cX7_foresees 216 = .ok (.dup2, 1) := by decide +kernel
theorem dX7_foresees_217 : decode cX7_foresees 217 = .ok (.iaload, 1) := by decide +kernel
theorem dX7_foresees_218 : decode cX7_foresees 218 = .ok (.iload 11, 2) := by decide +kernel
theorem dX7_foresees_220 : decode cX7_foresees 220 = .ok (.iadd, 1) := by decide +kernel
theorem dX7_foresees_221 : decode cX7_foresees 221 = .ok (.iastore, 1) := by decide +kernel
theorem dX7_foresees_222 : decode cX7_foresees 222 = .ok (.iload 4, 2) := by decide +kernel
theorem dX7_foresees_224 : decode cX7_foresees 224 = .ok (.iload 10, 2) := by decide +kernel
theorem dX7_foresees_226 : decode cX7_foresees 226 = .ok (.iload 11, 2) := by decide +kernel
theorem dX7_foresees_228 : decode cX7_foresees 228 = .ok (.isub, 1) := by decide +kernel
theorem dX7_foresees_229 : decode cX7_foresees 229 = .ok (.iadd, 1) := by decide +kernel
theorem dX7_foresees_230 : decode cX7_foresees 230 = .ok (.istore 4, 2) := by decide +kernel
theorem dX7_foresees_232 : decode cX7_foresees 232 = .ok (.iconst 0, 1) := by decide +kernel
theorem dX7_foresees_233 : decode cX7_foresees 233 = .ok (.istore 12, 2) := by decide +kernel
theorem dX7_foresees_235 : decode cX7_foresees 235 = .ok (.iload 12, 2) := by decide +kernel
theorem dX7_foresees_237 : decode cX7_foresees 237 = .ok (.iconst 4, 1) := by decide +kernel
theorem dX7_foresees_238 : decode cX7_foresees 238 = .ok (.if_icmp .ge 41, 3) := by decide +kernel
theorem dX7_foresees_241 : decode cX7_foresees 241 = .ok (.aload_n 3, 1) := by decide +kernel
theorem dX7_foresees_242 : decode cX7_foresees 242 = .ok (.iconst 4, 1) := by decide +kernel
theorem dX7_foresees_243 : decode cX7_foresees 243 = .ok (.iload 7, 2) := by decide +kernel
theorem dX7_foresees_245 : decode cX7_foresees 245 = .ok (.imul, 1) := by decide +kernel
theorem dX7_foresees_246 : decode cX7_foresees 246 = .ok (.iload 12, 2) := by decide +kernel
theorem dX7_foresees_248 : decode cX7_foresees 248 = .ok (.iadd, 1) := by decide +kernel
theorem dX7_foresees_249 : decode cX7_foresees 249 = .ok (.dup2, 1) := by decide +kernel
theorem dX7_foresees_250 : decode cX7_foresees 250 = .ok (.iaload, 1) := by decide +kernel
theorem dX7_foresees_251 : decode cX7_foresees 251 = .ok (.aload_n 3, 1) := by decide +kernel
theorem dX7_foresees_252 : decode cX7_foresees 252 = .ok (.iconst 4, 1) := by decide +kernel
theorem dX7_foresees_253 : decode cX7_foresees 253 = .ok (.iload 7, 2) := by decide +kernel
theorem dX7_foresees_255 : decode cX7_foresees 255 = .ok (.imul, 1) := by decide +kernel
theorem dX7_foresees_256 : decode cX7_foresees 256 = .ok (.iload 12, 2) := by decide +kernel
theorem dX7_foresees_258 : decode cX7_foresees 258 = .ok (.iadd, 1) := by decide +kernel
theorem dX7_foresees_259 : decode cX7_foresees 259 = .ok (.iaload, 1) := by decide +kernel
theorem dX7_foresees_260 : decode cX7_foresees 260 = .ok (.aload_n 0, 1) := by decide +kernel
theorem dX7_foresees_261 : decode cX7_foresees 261 = .ok (.getfield 13, 3) := by decide +kernel
theorem dX7_foresees_264 : decode cX7_foresees 264 = .ok (.iload 6, 2) := by decide +kernel
theorem dX7_foresees_266 : decode cX7_foresees 266 = .ok (.iaload, 1) := by decide +kernel
theorem dX7_foresees_267 : decode cX7_foresees 267 = .ok (.imul, 1) := by decide +kernel
theorem dX7_foresees_268 : decode cX7_foresees 268 = .ok (.bipush 100, 2) := by decide +kernel
theorem dX7_foresees_270 : decode cX7_foresees 270 = .ok (.idiv, 1) := by decide +kernel
theorem dX7_foresees_271 : decode cX7_foresees 271 = .ok (.isub, 1) := by decide +kernel
theorem dX7_foresees_272 : decode cX7_foresees 272 = .ok (.iastore, 1) := by decide +kernel
theorem dX7_foresees_273 : decode cX7_foresees 273 = .ok (.iinc 12 1, 3) := by decide +kernel
theorem dX7_foresees_276 : decode cX7_foresees 276 = .ok (.goto (-41), 3) := by decide +kernel
theorem dX7_foresees_279 : decode cX7_foresees 279 = .ok (.iinc 7 1, 3) := by decide +kernel
theorem dX7_foresees_282 : decode cX7_foresees 282 = .ok (.goto (-199), 3) := by decide +kernel
theorem dX7_foresees_285 : decode cX7_foresees 285 = .ok (.iinc 5 1, 3) := by decide +kernel
theorem dX7_foresees_288 : decode cX7_foresees 288 = .ok (.goto (-238), 3) := by decide +kernel
theorem dX7_foresees_291 : decode cX7_foresees 291 = .ok (.return_, 1) := by decide +kernel
theorem dX7_apart_0 : decode cX7_apart 0 = .ok (.iload_n 0, 1) := by decide +kernel
theorem dX7_apart_1 : decode cX7_apart 1 = .ok (.iload_n 2, 1) := by decide +kernel
theorem dX7_apart_2 : decode cX7_apart 2 = .ok (.if_icmp .ge 9, 3) := by decide +kernel
theorem dX7_apart_5 : decode cX7_apart 5 = .ok (.iload_n 2, 1) := by decide +kernel
theorem dX7_apart_6 : decode cX7_apart 6 = .ok (.iload_n 0, 1) := by decide +kernel
theorem dX7_apart_7 : decode cX7_apart 7 = .ok (.isub, 1) := by decide +kernel
theorem dX7_apart_8 : decode cX7_apart 8 = .ok (.goto 6, 3) := by decide +kernel
theorem dX7_apart_11 : decode cX7_apart 11 = .ok (.iload_n 0, 1) := by decide +kernel
theorem dX7_apart_12 : decode cX7_apart 12 = .ok (.iload_n 2, 1) := by decide +kernel
theorem dX7_apart_13 : decode cX7_apart 13 = .ok (.isub, 1) := by decide +kernel
theorem dX7_apart_14 : decode cX7_apart 14 = .ok (.iload_n 1, 1) := by decide +kernel
theorem dX7_apart_15 : decode cX7_apart 15 = .ok (.iload_n 3, 1) := by decide +kernel
theorem dX7_apart_16 : decode cX7_apart 16 = .ok (.if_icmp .ge 9, 3) := by decide +kernel
theorem dX7_apart_19 : decode cX7_apart 19 = .ok (.iload_n 3, 1) := by decide +kernel
theorem dX7_apart_20 : decode cX7_apart 20 = .ok (.iload_n 1, 1) := by decide +kernel
theorem dX7_apart_21 : decode cX7_apart 21 = .ok (.isub, 1) := by decide +kernel
theorem dX7_apart_22 : decode cX7_apart 22 = .ok (.goto 6, 3) := by decide +kernel
theorem dX7_apart_25 : decode cX7_apart 25 = .ok (.iload_n 1, 1) := by decide +kernel
theorem dX7_apart_26 : decode cX7_apart 26 = .ok (.iload_n 3, 1) := by decide +kernel
theorem dX7_apart_27 : decode cX7_apart 27 = .ok (.isub, 1) := by decide +kernel
theorem dX7_apart_28 : decode cX7_apart 28 = .ok (.iadd, 1) := by decide +kernel
theorem dX7_apart_29 : decode cX7_apart 29 = .ok (.ireturn, 1) := by decide +kernel
set_option maxRecDepth 20000 in
theorem ggX7_walks_X7_in : GoodIn wsX7_walks wsX7_in := goodIn_r _ [12] (by decide +kernel) (by decide +kernel)
set_option maxRecDepth 20000 in
theorem gX7_walks_X7_in : GoodIn wsX7_walks (va_wsS RX7 96 yX7_in wsX7_in) := goodIn_app (goodIn_of _ (by decide +kernel)) ggX7_walks_X7_in
set_option maxRecDepth 20000 in
theorem ggX7_walks_X7_chooses : GoodIn wsX7_walks wsX7_chooses := goodIn_r _ [16, 17, 2, 45, 46, 47, 48, 49, 50, 51, 52, 53, 54, 55, 56, 57, 58, 59, 60, 61, 62, 63, 64, 65, 66, 67, 68, 69, 70, 71, 72, 73, 74, 75, 76, 77, 78, 79, 80, 81, 82, 83] (by decide +kernel) (by decide +kernel)
set_option maxRecDepth 20000 in
theorem gX7_walks_X7_chooses : GoodIn wsX7_walks (wsV RX7 183 RX7 yX7_chooses wsX7_chooses) := goodIn_app (goodIn_of _ (by decide +kernel)) ggX7_walks_X7_chooses
set_option maxRecDepth 20000 in
theorem ggX7_walks_X7_foresees : GoodIn wsX7_walks wsX7_foresees := goodIn_r _ [21, 2, 22, 23, 6, 24, 25, 26, 27, 28, 29, 30, 31, 11, 32, 33, 34, 35, 36, 37, 45, 46, 47, 48, 49, 50, 51, 52, 53, 54, 55, 56, 57, 58, 59, 60, 61, 62, 63, 64, 65, 66, 67, 68, 69, 70, 71, 72, 73, 74, 75, 76, 77, 78, 79, 80, 81, 82, 83] (by decide +kernel) (by decide +kernel)
set_option maxRecDepth 20000 in
theorem gX7_walks_X7_foresees : GoodIn wsX7_walks (wsV RX7 186 RX7 yX7_foresees wsX7_foresees) := goodIn_app (goodIn_of _ (by decide +kernel)) ggX7_walks_X7_foresees
set_option maxRecDepth 20000 in
theorem ggX7_walks_X7_orders : GoodIn wsX7_walks wsX7_orders := goodIn_r _ [41, 3, 45, 46, 47, 48, 49, 50, 51, 52, 53, 54, 55, 56, 57, 58, 59, 60, 61, 62, 63, 64, 65, 66, 67, 68, 69, 70, 71, 72, 73, 74, 75, 76, 77, 78, 79, 80, 81, 82, 83] (by decide +kernel) (by decide +kernel)
set_option maxRecDepth 20000 in
theorem gX7_walks_X7_orders : GoodIn wsX7_walks (wsV RX7 192 RX7 yX7_orders wsX7_orders) := goodIn_app (goodIn_of _ (by decide +kernel)) ggX7_walks_X7_orders
set_option maxRecDepth 20000 in
theorem ggX7_walks_X7_apart : GoodIn wsX7_walks wsX7_apart := goodIn_r _ [44] (by decide +kernel) (by decide +kernel)
set_option maxRecDepth 20000 in
theorem gX7_walks_X7_apart : GoodIn wsX7_walks (va_wsS RX7 196 yX7_apart wsX7_apart) := goodIn_app (goodIn_of _ (by decide +kernel)) ggX7_walks_X7_apart
theorem dX7_walks_0 : decode cX7_walks 0 = .ok (.iload_n 3, 1) := by decide +kernel
theorem dX7_walks_1 : decode cX7_walks 1 = .ok (.iconst 0, 1) := by decide +kernel
theorem dX7_walks_2 : decode cX7_walks 2 = .ok (.sipush 9999, 3) := by decide +kernel
theorem dX7_walks_5 : decode cX7_walks 5 = .ok (.invokestatic 96, 3) := by decide +kernel
theorem dX7_walks_8 : decode cX7_walks 8 = .ok (.ifCond .eq 12, 3) := by decide +kernel
theorem dX7_walks_11 : decode cX7_walks 11 = .ok (.aload_n 0, 1) := by decide +kernel
theorem dX7_walks_12 : decode cX7_walks 12 = .ok (.iload_n 1, 1) := by decide +kernel
theorem dX7_walks_13 : decode cX7_walks 13 = .ok (.iload_n 2, 1) := by decide +kernel
theorem dX7_walks_14 : decode cX7_walks 14 = .ok (.invokevirtual 183, 3) := by decide +kernel
theorem dX7_walks_17 : decode cX7_walks 17 = .ok (.goto 4, 3) := by decide +kernel
theorem dX7_walks_20 : decode cX7_walks 20 = .ok (.iconst (-1), 1) := by decide +kernel
theorem dX7_walks_21 : decode cX7_walks 21 = .ok (.istore 4, 2) := by decide +kernel
theorem dX7_walks_23 : decode cX7_walks 23 = .ok (.iload 4, 2) := by decide +kernel
theorem dX7_walks_25 : decode cX7_walks 25 = .ok (.iconst (-1), 1) := by decide +kernel
theorem dX7_walks_26 : decode cX7_walks 26 = .ok (.if_icmp .ne 5, 3) := by decide +kernel
theorem dX7_walks_29 : decode cX7_walks 29 = .ok (.iconst (-1), 1) := by decide +kernel
theorem dX7_walks_30 : decode cX7_walks 30 = .ok (.ireturn, 1) := by decide +kernel
theorem dX7_walks_31 : decode cX7_walks 31 = .ok (.iconst 0, 1) := by decide +kernel
theorem dX7_walks_32 : decode cX7_walks 32 = .ok (.istore 5, 2) := by decide +kernel
theorem dX7_walks_34 : decode cX7_walks 34 = .ok (.iload 5, 2) := by decide +kernel
theorem dX7_walks_36 : decode cX7_walks 36 = .ok (.iload 4, 2) := by decide +kernel
theorem dX7_walks_38 : decode cX7_walks 38 = .ok (.if_icmp .ge 15, 3) := by decide +kernel
theorem dX7_walks_41 : decode cX7_walks 41 = .ok (.aload_n 0, 1) := by decide +kernel
theorem dX7_walks_42 : decode cX7_walks 42 = .ok (.iload 5, 2) := by decide +kernel
theorem dX7_walks_44 : decode cX7_walks 44 = .ok (.invokevirtual 186, 3) := by decide +kernel
theorem dX7_walks_47 : decode cX7_walks 47 = .ok (.iinc 5 1, 3) := by decide +kernel
theorem dX7_walks_50 : decode cX7_walks 50 = .ok (.goto (-16), 3) := by decide +kernel
theorem dX7_walks_53 : decode cX7_walks 53 = .ok (.iconst 1, 1) := by decide +kernel
theorem dX7_walks_54 : decode cX7_walks 54 = .ok (.istore 5, 2) := by decide +kernel
theorem dX7_walks_56 : decode cX7_walks 56 = .ok (.iconst 2, 1) := by decide +kernel
theorem dX7_walks_57 : decode cX7_walks 57 = .ok (.istore 6, 2) := by decide +kernel
theorem dX7_walks_59 : decode cX7_walks 59 = .ok (.iload 6, 2) := by decide +kernel
theorem dX7_walks_61 : decode cX7_walks 61 = .ok (.iload 4, 2) := by decide +kernel
theorem dX7_walks_63 : decode cX7_walks 63 = .ok (.if_icmp .gt 16, 3) := by decide +kernel
theorem dX7_walks_66 : decode cX7_walks 66 = .ok (.iload 5, 2) := by decide +kernel
theorem dX7_walks_68 : decode cX7_walks 68 = .ok (.iload 6, 2) := by decide +kernel
theorem dX7_walks_70 : decode cX7_walks 70 = .ok (.imul, 1) := by decide +kernel
theorem dX7_walks_71 : decode cX7_walks 71 = .ok (.istore 5, 2) := by decide +kernel
theorem dX7_walks_73 : decode cX7_walks 73 = .ok (.iinc 6 1, 3) := by decide +kernel
theorem dX7_walks_76 : decode cX7_walks 76 = .ok (.goto (-17), 3) := by decide +kernel
theorem dX7_walks_79 : decode cX7_walks 79 = .ok (.aload_n 0, 1) := by decide +kernel
theorem dX7_walks_80 : decode cX7_walks 80 = .ok (.iconst (-1), 1) := by decide +kernel
theorem dX7_walks_81 : decode cX7_walks 81 = .ok (.putfield 189, 3) := by decide +kernel
theorem dX7_walks_84 : decode cX7_walks 84 = .ok (.iconst 0, 1) := by decide +kernel
theorem dX7_walks_85 : decode cX7_walks 85 = .ok (.istore 6, 2) := by decide +kernel
theorem dX7_walks_87 : decode cX7_walks 87 = .ok (.iload 6, 2) := by decide +kernel
theorem dX7_walks_89 : decode cX7_walks 89 = .ok (.iload 5, 2) := by decide +kernel
theorem dX7_walks_91 : decode cX7_walks 91 = .ok (.if_icmp .ge 215, 3) := by decide +kernel
theorem dX7_walks_94 : decode cX7_walks 94 = .ok (.aload_n 0, 1) := by decide +kernel
theorem dX7_walks_95 : decode cX7_walks 95 = .ok (.iload 6, 2) := by decide +kernel
theorem dX7_walks_97 : decode cX7_walks 97 = .ok (.iload 4, 2) := by decide +kernel
theorem dX7_walks_99 : decode cX7_walks 99 = .ok (.invokevirtual 192, 3) := by decide +kernel
theorem dX7_walks_102 : decode cX7_walks 102 = .ok (.iconst 0, 1) := by decide +kernel
theorem dX7_walks_103 : decode cX7_walks 103 = .ok (.istore 7, 2) := by decide +kernel
theorem dX7_walks_105 : decode cX7_walks 105 = .ok (.iconst 0, 1) := by decide +kernel
theorem dX7_walks_106 : decode cX7_walks 106 = .ok (.istore 8, 2) := by decide +kernel
theorem dX7_walks_108 : decode cX7_walks 108 = .ok (.iload_n 3, 1) := by decide +kernel
theorem dX7_walks_109 : decode cX7_walks 109 = .ok (.bipush 100, 2) := by decide +kernel
theorem dX7_walks_111 : decode cX7_walks 111 = .ok (.idiv, 1) := by decide +kernel
theorem dX7_walks_112 : decode cX7_walks 112 = .ok (.istore 9, 2) := by decide +kernel
theorem dX7_walks_114 : decode cX7_walks 114 = .ok (.iload_n 3, 1) := by decide +kernel
theorem dX7_walks_115 : decode cX7_walks 115 = .ok (.bipush 100, 2) := by decide +kernel
theorem dX7_walks_117 : decode cX7_walks 117 = .ok (.irem, 1) := by decide +kernel
theorem dX7_walks_118 : decode cX7_walks 118 = .ok (.istore 10, 2) := by decide +kernel
theorem dX7_walks_120 : decode cX7_walks 120 = .ok (.iconst 0, 1) := by decide +kernel
theorem dX7_walks_121 : decode cX7_walks 121 = .ok (.istore 11, 2) := by decide +kernel
theorem dX7_walks_123 : decode cX7_walks 123 = .ok (.iload 11, 2) := by decide +kernel
theorem dX7_walks_125 : decode cX7_walks 125 = .ok (.iload 4, 2) := by decide +kernel
theorem dX7_walks_127 : decode cX7_walks 127 = .ok (.if_icmp .ge 93, 3) := by decide +kernel
theorem dX7_walks_130 : decode cX7_walks 130 = .ok (.aload_n 0, 1) := by decide +kernel
theorem dX7_walks_131 : decode cX7_walks 131 = .ok (.getfield 80, 3) := by decide +kernel
theorem dX7_walks_134 : decode cX7_walks 134 = .ok (.aload_n 0, 1) := by decide +kernel
theorem dX7_walks_135 : decode cX7_walks 135 = .ok (.getfield 86, 3) := by decide +kernel
theorem dX7_walks_138 : decode cX7_walks 138 = .ok (.iload 11, 2) := by decide +kernel
theorem dX7_walks_140 : decode cX7_walks 140 = .ok (.iaload, 1) := by decide +kernel
theorem dX7_walks_141 : decode cX7_walks 141 = .ok (.iaload, 1) := by decide +kernel
theorem dX7_walks_142 : decode cX7_walks 142 = .ok (.istore 12, 2) := by decide +kernel
theorem dX7_walks_144 : decode cX7_walks 144 = .ok (.iload 7, 2) := by decide +kernel
theorem dX7_walks_146 : decode cX7_walks 146 = .ok (.iload 9, 2) := by decide +kernel
theorem dX7_walks_148 : decode cX7_walks 148 = .ok (.iload 10, 2) := by decide +kernel
theorem dX7_walks_150 : decode cX7_walks 150 = .ok (.aload_n 0, 1) := by decide +kernel
theorem dX7_walks_151 : decode cX7_walks 151 = .ok (.getfield 19, 3) := by decide +kernel
theorem dX7_walks_154 : decode cX7_walks 154 = .ok (.iload 12, 2) := by decide +kernel
theorem dX7_walks_156 : decode cX7_walks 156 = .ok (.iaload, 1) := by decide +kernel
theorem dX7_walks_157 : decode cX7_walks 157 = .ok (.aload_n 0, 1) := by decide +kernel
theorem dX7_walks_158 : decode cX7_walks 158 = .ok (.getfield 22, 3) := by decide +kernel
theorem dX7_walks_161 : decode cX7_walks 161 = .ok (.iload 12, 2) := by decide +kernel
theorem dX7_walks_163 : decode cX7_walks 163 = .ok (.iaload, 1) := by decide +kernel
theorem dX7_walks_164 : decode cX7_walks 164 = .ok (.invokestatic 196, 3) := by decide +kernel
theorem dX7_walks_167 : decode cX7_walks 167 = .ok (.iadd, 1) := by decide +kernel
theorem dX7_walks_168 : decode cX7_walks 168 = .ok (.istore 7, 2) := by decide +kernel
theorem dX7_walks_170 : decode cX7_walks 170 = .ok (.aload_n 0, 1) := by decide +kernel
theorem dX7_walks_171 : decode cX7_walks 171 = .ok (.getfield 19, 3) := by decide +kernel
theorem dX7_walks_174 : decode cX7_walks 174 = .ok (.iload 12, 2) := by decide +kernel
theorem dX7_walks_176 : decode cX7_walks 176 = .ok (.iaload, 1) := by decide +kernel
theorem dX7_walks_177 : decode cX7_walks 177 = .ok (.istore 9, 2) := by decide +kernel
theorem dX7_walks_179 : decode cX7_walks 179 = .ok (.aload_n 0, 1) := by decide +kernel
theorem dX7_walks_180 : decode cX7_walks 180 = .ok (.getfield 22, 3) := by decide +kernel
theorem dX7_walks_183 : decode cX7_walks 183 = .ok (.iload 12, 2) := by decide +kernel
theorem dX7_walks_185 : decode cX7_walks 185 = .ok (.iaload, 1) := by decide +kernel
theorem dX7_walks_186 : decode cX7_walks 186 = .ok (.istore 10, 2) := by decide +kernel
theorem dX7_walks_188 : decode cX7_walks 188 = .ok (.iload 8, 2) := by decide +kernel
theorem dX7_walks_190 : decode cX7_walks 190 = .ok (.aload_n 0, 1) := by decide +kernel
theorem dX7_walks_191 : decode cX7_walks 191 = .ok (.getfield 83, 3) := by decide +kernel
theorem dX7_walks_194 : decode cX7_walks 194 = .ok (.bipush 24, 2) := by decide +kernel
theorem dX7_walks_196 : decode cX7_walks 196 = .ok (.aload_n 0, 1) := by decide +kernel
theorem dX7_walks_197 : decode cX7_walks 197 = .ok (.getfield 86, 3) := by decide +kernel
theorem dX7_walks_200 : decode cX7_walks 200 = .ok (.iload 11, 2) := by decide +kernel
theorem dX7_walks_202 : decode cX7_walks 202 = .ok (.iaload, 1) := by decide +kernel
theorem dX7_walks_203 : decode cX7_walks 203 = .ok (.imul, 1) := by decide +kernel
theorem dX7_walks_204 : decode cX7_walks 204 = .ok (.iload 7, 2) := by decide +kernel
theorem dX7_walks_206 : decode cX7_walks 206 = .ok (.bipush 60, 2) := by decide +kernel
theorem dX7_walks_208 : decode cX7_walks 208 = .ok (.idiv, 1) := by decide +kernel
theorem dX7_walks_209 : decode cX7_walks 209 = .ok (.iadd, 1) := by decide +kernel
theorem dX7_walks_210 : decode cX7_walks 210 = .ok (.iaload, 1) := by decide +kernel
theorem dX7_walks_211 : decode cX7_walks 211 = .ok (.iadd, 1) := by decide +kernel
theorem dX7_walks_212 : decode cX7_walks 212 = .ok (.istore 8, 2) := by decide +kernel
theorem dX7_walks_214 : decode cX7_walks 214 = .ok (.iinc 11 1, 3) := by decide +kernel
theorem dX7_walks_217 : decode cX7_walks 217 = .ok (.goto (-94), 3) := by decide +kernel
theorem dX7_walks_220 : decode cX7_walks 220 = .ok (.aload_n 0, 1) := by decide +kernel
theorem dX7_walks_221 : decode cX7_walks 221 = .ok (.getfield 189, 3) := by decide +kernel
theorem dX7_walks_224 : decode cX7_walks 224 = .ok (.iconst (-1), 1) := by decide +kernel
theorem dX7_walks_225 : decode cX7_walks 225 = .ok (.if_icmp .eq 33, 3) := by decide +kernel
theorem dX7_walks_228 : decode cX7_walks 228 = .ok (.iload 8, 2) := by decide +kernel
theorem dX7_walks_230 : decode cX7_walks 230 = .ok (.aload_n 0, 1) := by decide +kernel
theorem dX7_walks_231 : decode cX7_walks 231 = .ok (.getfield 189, 3) := by decide +kernel
theorem dX7_walks_234 : decode cX7_walks 234 = .ok (.if_icmp .gt 66, 3) := by decide +kernel
theorem dX7_walks_237 : decode cX7_walks 237 = .ok (.iload 8, 2) := by decide +kernel
theorem dX7_walks_239 : decode cX7_walks 239 = .ok (.aload_n 0, 1) := by decide +kernel
theorem dX7_walks_240 : decode cX7_walks 240 = .ok (.getfield 189, 3) := by decide +kernel
theorem dX7_walks_243 : decode cX7_walks 243 = .ok (.if_icmp .ne 15, 3) := by decide +kernel
theorem dX7_walks_246 : decode cX7_walks 246 = .ok (.iload 7, 2) := by decide +kernel
theorem dX7_walks_248 : decode cX7_walks 248 = .ok (.aload_n 0, 1) := by decide +kernel
theorem dX7_walks_249 : decode cX7_walks 249 = .ok (.getfield 200, 3) := by decide +kernel
theorem dX7_walks_252 : decode cX7_walks 252 = .ok (.if_icmp .lt 6, 3) := by decide +kernel
theorem dX7_walks_255 : decode cX7_walks 255 = .ok (.goto 45, 3) := by decide +kernel
theorem dX7_walks_258 : decode cX7_walks 258 = .ok (.aload_n 0, 1) := by decide +kernel
theorem dX7_walks_259 : decode cX7_walks 259 = .ok (.iload 8, 2) := by decide +kernel
theorem dX7_walks_261 : decode cX7_walks 261 = .ok (.putfield 189, 3) := by decide +kernel
theorem dX7_walks_264 : decode cX7_walks 264 = .ok (.aload_n 0, 1) := by decide +kernel
theorem dX7_walks_265 : decode cX7_walks 265 = .ok (.iload 7, 2) := by decide +kernel
theorem dX7_walks_267 : decode cX7_walks 267 = .ok (.putfield 200, 3) := by decide +kernel
theorem dX7_walks_270 : decode cX7_walks 270 = .ok (.iconst 0, 1) := by decide +kernel
theorem dX7_walks_271 : decode cX7_walks 271 = .ok (.istore 11, 2) := by decide +kernel
theorem dX7_walks_273 : decode cX7_walks 273 = .ok (.iload 11, 2) := by decide +kernel
theorem dX7_walks_275 : decode cX7_walks 275 = .ok (.iload 4, 2) := by decide +kernel
theorem dX7_walks_277 : decode cX7_walks 277 = .ok (.if_icmp .ge 23, 3) := by decide +kernel
theorem dX7_walks_280 : decode cX7_walks 280 = .ok (.aload_n 0, 1) := by decide +kernel
theorem dX7_walks_281 : decode cX7_walks 281 = .ok (.getfield 89, 3) := by decide +kernel
theorem dX7_walks_284 : decode cX7_walks 284 = .ok (.iload 11, 2) := by decide +kernel
theorem dX7_walks_286 : decode cX7_walks 286 = .ok (.aload_n 0, 1) := by decide +kernel
theorem dX7_walks_287 : decode cX7_walks 287 = .ok (.getfield 86, 3) := by decide +kernel
theorem dX7_walks_290 : decode cX7_walks 290 = .ok (.iload 11, 2) := by decide +kernel
theorem dX7_walks_292 : decode cX7_walks 292 = .ok (.iaload, 1) := by decide +kernel
theorem dX7_walks_293 : decode cX7_walks 293 = .ok (.iastore, 1) := by decide +kernel
theorem dX7_walks_294 : decode cX7_walks 294 = .ok (.iinc 11 1, 3) := by decide +kernel
theorem dX7_walks_297 : decode cX7_walks 297 = .ok (.goto (-24), 3) := by decide +kernel
theorem dX7_walks_300 : decode cX7_walks 300 = .ok (.iinc 6 1, 3) := by decide +kernel
theorem dX7_walks_303 : decode cX7_walks 303 = .ok (.goto (-216), 3) := by decide +kernel
theorem dX7_walks_306 : decode cX7_walks 306 = .ok (.iload 4, 2) := by decide +kernel
theorem dX7_walks_308 : decode cX7_walks 308 = .ok (.ireturn, 1) := by decide +kernel
theorem dX7_orders_0 : decode cX7_orders 0 = .ok (.iload_n 1, 1) := by decide +kernel
theorem dX7_orders_1 : decode cX7_orders 1 = .ok (.istore_n 3, 1) := by decide +kernel
theorem dX7_orders_2 : decode cX7_orders 2 = .ok (.iconst 0, 1) := by decide +kernel
theorem dX7_orders_3 : decode cX7_orders 3 = .ok (.istore 4, 2) := by decide +kernel
theorem dX7_orders_5 : decode cX7_orders 5 = .ok (.iconst 0, 1) := by decide +kernel
theorem dX7_orders_6 : decode cX7_orders 6 = .ok (.istore 5, 2) := by decide +kernel
theorem dX7_orders_8 : decode cX7_orders 8 = .ok (.iload 5, 2) := by decide +kernel
theorem dX7_orders_10 : decode cX7_orders 10 = .ok (.iload_n 2, 1) := by decide +kernel
theorem dX7_orders_11 : decode cX7_orders 11 = .ok (.if_icmp .ge 117, 3) := by decide +kernel
theorem dX7_orders_14 : decode cX7_orders 14 = .ok (.iconst 1, 1) := by decide +kernel
theorem dX7_orders_15 : decode cX7_orders 15 = .ok (.istore 6, 2) := by decide +kernel
theorem dX7_orders_17 : decode cX7_orders 17 = .ok (.iconst 2, 1) := by decide +kernel
theorem dX7_orders_18 : decode cX7_orders 18 = .ok (.istore 7, 2) := by decide +kernel
theorem dX7_orders_20 : decode cX7_orders 20 = .ok (.iload 7, 2) := by decide +kernel
theorem dX7_orders_22 : decode cX7_orders 22 = .ok (.iload_n 2, 1) := by decide +kernel
theorem dX7_orders_23 : decode cX7_orders 23 = .ok (.iload 5, 2) := by decide +kernel
theorem dX7_orders_25 : decode cX7_orders 25 = .ok (.isub, 1) := by decide +kernel
theorem dX7_orders_26 : decode cX7_orders 26 = .ok (.if_icmp .ge 16, 3) := by decide +kernel
theorem dX7_orders_29 : decode cX7_orders 29 = .ok (.iload 6, 2) := by decide +kernel
theorem dX7_orders_31 : decode cX7_orders 31 = .ok (.iload 7, 2) := by decide +kernel
theorem dX7_orders_33 : decode cX7_orders 33 = .ok (.imul, 1) := by decide +kernel
theorem dX7_orders_34 : decode cX7_orders 34 = .ok (.istore 6, 2) := by decide +kernel
theorem dX7_orders_36 : decode cX7_orders 36 = .ok (.iinc 7 1, 3) := by decide +kernel
theorem dX7_orders_39 : decode cX7_orders 39 = .ok (.goto (-19), 3) := by decide +kernel
theorem dX7_orders_42 : decode cX7_orders 42 = .ok (.iload_n 3, 1) := by decide +kernel
theorem dX7_orders_43 : decode cX7_orders 43 = .ok (.iload 6, 2) := by decide +kernel
theorem dX7_orders_45 : decode cX7_orders 45 = .ok (.idiv, 1) := by decide +kernel
theorem dX7_orders_46 : decode cX7_orders 46 = .ok (.istore 7, 2) := by decide +kernel
theorem dX7_orders_48 : decode cX7_orders 48 = .ok (.iload_n 3, 1) := by decide +kernel
theorem dX7_orders_49 : decode cX7_orders 49 = .ok (.iload 6, 2) := by decide +kernel
theorem dX7_orders_51 : decode cX7_orders 51 = .ok (.irem, 1) := by decide +kernel
theorem dX7_orders_52 : decode cX7_orders 52 = .ok (.istore_n 3, 1) := by decide +kernel
theorem dX7_orders_53 : decode cX7_orders 53 = .ok (.iconst 0, 1) := by decide +kernel
theorem dX7_orders_54 : decode cX7_orders 54 = .ok (.istore 8, 2) := by decide +kernel
theorem dX7_orders_56 : decode cX7_orders 56 = .ok (.iload 4, 2) := by decide +kernel
theorem dX7_orders_58 : decode cX7_orders 58 = .ok (.iload 8, 2) := by decide +kernel
theorem dX7_orders_60 : decode cX7_orders 60 = .ok (.ishr, 1) := by decide +kernel
theorem dX7_orders_61 : decode cX7_orders 61 = .ok (.iconst 1, 1) := by decide +kernel
theorem dX7_orders_62 : decode cX7_orders 62 = .ok (.iand, 1) := by decide +kernel
theorem dX7_orders_63 : decode cX7_orders 63 = .ok (.iconst 1, 1) := by decide +kernel
theorem dX7_orders_64 : decode cX7_orders 64 = .ok (.if_icmp .ne 9, 3) := by decide +kernel
theorem dX7_orders_67 : decode cX7_orders 67 = .ok (.iinc 8 1, 3) := by decide +kernel
theorem dX7_orders_70 : decode cX7_orders 70 = .ok (.goto (-14), 3) := by decide +kernel
theorem dX7_orders_73 : decode cX7_orders 73 = .ok (.iload 7, 2) := by decide +kernel
theorem dX7_orders_75 : decode cX7_orders 75 = .ok (.ifCond .le 29, 3) := by decide +kernel
theorem dX7_orders_78 : decode cX7_orders 78 = .ok (.iinc 8 1, 3) := by decide +kernel
theorem dX7_orders_81 : decode cX7_orders 81 = .ok (.iload 4, 2) := by decide +kernel
theorem dX7_orders_83 : decode cX7_orders 83 = .ok (.iload 8, 2) := by decide +kernel
theorem dX7_orders_85 : decode cX7_orders 85 = .ok (.ishr, 1) := by decide +kernel
theorem dX7_orders_86 : decode cX7_orders 86 = .ok (.iconst 1, 1) := by decide +kernel
theorem dX7_orders_87 : decode cX7_orders 87 = .ok (.iand, 1) := by decide +kernel
theorem dX7_orders_88 : decode cX7_orders 88 = .ok (.iconst 1, 1) := by decide +kernel
theorem dX7_orders_89 : decode cX7_orders 89 = .ok (.if_icmp .ne 9, 3) := by decide +kernel
theorem dX7_orders_92 : decode cX7_orders 92 = .ok (.iinc 8 1, 3) := by decide +kernel
theorem dX7_orders_95 : decode cX7_orders 95 = .ok (.goto (-14), 3) := by decide +kernel
theorem dX7_orders_98 : decode cX7_orders 98 = .ok (.iinc 7 (-1), 3) := by decide +kernel
theorem dX7_orders_101 : decode cX7_orders 101 = .ok (.goto (-28), 3) := by decide +kernel
theorem dX7_orders_104 : decode cX7_orders 104 = .ok (.aload_n 0, 1) := by decide +kernel
theorem dX7_orders_105 : decode cX7_orders 105 = .ok (.getfield 86, 3) := by decide +kernel
theorem dX7_orders_108 : decode cX7_orders 108 = .ok (.iload 5, 2) := by decide +kernel
theorem dX7_orders_110 : decode cX7_orders 110 = .ok (.iload 8, 2) := by decide +kernel
theorem dX7_orders_112 : decode cX7_orders 112 = .ok (.iastore, 1) := by decide +kernel
theorem dX7_orders_113 : decode cX7_orders 113 = .ok (.iload 4, 2) := by decide +kernel
theorem dX7_orders_115 : decode cX7_orders 115 = .ok (.iconst 1, 1) := by decide +kernel
theorem dX7_orders_116 : decode cX7_orders 116 = .ok (.iload 8, 2) := by decide +kernel
theorem dX7_orders_118 : decode cX7_orders 118 = .ok (.ishl, 1) := by decide +kernel
theorem dX7_orders_119 : decode cX7_orders 119 = .ok (.ior, 1) := by decide +kernel
theorem dX7_orders_120 : decode cX7_orders 120 = .ok (.istore 4, 2) := by decide +kernel
theorem dX7_orders_122 : decode cX7_orders 122 = .ok (.iinc 5 1, 3) := by decide +kernel
theorem dX7_orders_125 : decode cX7_orders 125 = .ok (.goto (-117), 3) := by decide +kernel
theorem dX7_orders_128 : decode cX7_orders 128 = .ok (.return_, 1) := by decide +kernel
set_option maxRecDepth 20000 in
theorem ggX7_walk_X7_walks : GoodIn wsX7_walk wsX7_walks := goodIn_r _ [7, 8, 1, 9, 10, 11, 12, 13, 2, 14, 15, 6, 16, 17, 18, 19, 20, 21, 22, 23, 24, 25, 26, 27, 28, 29, 30, 31, 32, 33, 34, 35, 36, 37, 38, 39, 40, 41, 42, 43, 44, 45, 46, 47, 48, 49, 50, 51, 52, 53, 54, 55, 56, 57, 58, 59, 60, 61, 62, 63, 64, 65, 66, 67, 68, 69, 70, 71, 72, 73, 74, 75, 76, 77, 78, 79, 80, 81, 82, 83, 84, 85, 86, 87] (by decide +kernel) (by decide +kernel)
set_option maxRecDepth 20000 in
theorem gX7_walk_X7_walks : GoodIn wsX7_walk (wsV RX7 203 RX7 yX7_walks wsX7_walks) := goodIn_app (goodIn_of _ (by decide +kernel)) ggX7_walk_X7_walks
set_option maxRecDepth 20000 in
theorem ggX7_walk_X7_in : GoodIn wsX7_walk wsX7_in := goodIn_r _ [16] (by decide +kernel) (by decide +kernel)
set_option maxRecDepth 20000 in
theorem gX7_walk_X7_in : GoodIn wsX7_walk (va_wsS RX7 96 yX7_in wsX7_in) := goodIn_app (goodIn_of _ (by decide +kernel)) ggX7_walk_X7_in
theorem dX7_walk_0 : decode cX7_walk 0 = .ok (.aload_n 0, 1) := by decide +kernel
theorem dX7_walk_1 : decode cX7_walk 1 = .ok (.iload_n 1, 1) := by decide +kernel
theorem dX7_walk_2 : decode cX7_walk 2 = .ok (.iload_n 2, 1) := by decide +kernel
theorem dX7_walk_3 : decode cX7_walk 3 = .ok (.iload_n 3, 1) := by decide +kernel
theorem dX7_walk_4 : decode cX7_walk 4 = .ok (.invokevirtual 203, 3) := by decide +kernel
theorem dX7_walk_7 : decode cX7_walk 7 = .ok (.istore 5, 2) := by decide +kernel
theorem dX7_walk_9 : decode cX7_walk 9 = .ok (.iload 4, 2) := by decide +kernel
theorem dX7_walk_11 : decode cX7_walk 11 = .ok (.iconst 0, 1) := by decide +kernel
theorem dX7_walk_12 : decode cX7_walk 12 = .ok (.iload 5, 2) := by decide +kernel
theorem dX7_walk_14 : decode cX7_walk 14 = .ok (.iconst 1, 1) := by decide +kernel
theorem dX7_walk_15 : decode cX7_walk 15 = .ok (.isub, 1) := by decide +kernel
theorem dX7_walk_16 : decode cX7_walk 16 = .ok (.invokestatic 96, 3) := by decide +kernel
theorem dX7_walk_19 : decode cX7_walk 19 = .ok (.ifCond .eq 18, 3) := by decide +kernel
theorem dX7_walk_22 : decode cX7_walk 22 = .ok (.aload_n 0, 1) := by decide +kernel
theorem dX7_walk_23 : decode cX7_walk 23 = .ok (.getfield 80, 3) := by decide +kernel
theorem dX7_walk_26 : decode cX7_walk 26 = .ok (.aload_n 0, 1) := by decide +kernel
theorem dX7_walk_27 : decode cX7_walk 27 = .ok (.getfield 89, 3) := by decide +kernel
theorem dX7_walk_30 : decode cX7_walk 30 = .ok (.iload 4, 2) := by decide +kernel
theorem dX7_walk_32 : decode cX7_walk 32 = .ok (.iaload, 1) := by decide +kernel
theorem dX7_walk_33 : decode cX7_walk 33 = .ok (.iaload, 1) := by decide +kernel
theorem dX7_walk_34 : decode cX7_walk 34 = .ok (.goto 4, 3) := by decide +kernel
theorem dX7_walk_37 : decode cX7_walk 37 = .ok (.iconst (-1), 1) := by decide +kernel
theorem dX7_walk_38 : decode cX7_walk 38 = .ok (.ireturn, 1) := by decide +kernel
set_option maxRecDepth 20000 in
theorem ggX7_walked_X7_in : GoodIn wsX7_walked wsX7_in := goodIn_r _ [6] (by decide +kernel) (by decide +kernel)
set_option maxRecDepth 20000 in
theorem gX7_walked_X7_in : GoodIn wsX7_walked (va_wsS RX7 96 yX7_in wsX7_in) := goodIn_app (goodIn_of _ (by decide +kernel)) ggX7_walked_X7_in
set_option maxRecDepth 20000 in
theorem ggX7_walked_X7_walks : GoodIn wsX7_walked wsX7_walks := goodIn_r _ [10, 1, 11, 12, 13, 14, 15, 2, 16, 3, 4, 5, 6, 17, 18, 19, 20, 21, 22, 23, 24, 25, 26, 27, 28, 29, 30, 31, 32, 33, 34, 35, 36, 37, 38, 39, 40, 41, 42, 43, 44, 45, 46, 47, 48, 49, 50, 51, 52, 53, 54, 55, 56, 57, 58, 59, 60, 61, 62, 63, 64, 65, 66, 67, 68, 69, 70, 71, 72, 73, 74, 75, 76, 77, 78, 79, 80, 81, 82, 83, 84, 85, 86, 87] (by decide +kernel) (by decide +kernel)
set_option maxRecDepth 20000 in
theorem gX7_walked_X7_walks : GoodIn wsX7_walked (wsV RX7 203 RX7 yX7_walks wsX7_walks) := goodIn_app (goodIn_of _ (by decide +kernel)) ggX7_walked_X7_walks
theorem dX7_walked_0 : decode cX7_walked 0 = .ok (.iload 4, 2) := by decide +kernel
theorem dX7_walked_2 : decode cX7_walked 2 = .ok (.iconst 0, 1) := by decide +kernel
theorem dX7_walked_3 : decode cX7_walked 3 = .ok (.iconst 1, 1) := by decide +kernel
theorem dX7_walked_4 : decode cX7_walked 4 = .ok (.invokestatic 96, 3) := by decide +kernel
theorem dX7_walked_7 : decode cX7_walked 7 = .ok (.ifCond .eq 14, 3) := by decide +kernel
theorem dX7_walked_10 : decode cX7_walked 10 = .ok (.aload_n 0, 1) := by decide +kernel
theorem dX7_walked_11 : decode cX7_walked 11 = .ok (.iload_n 1, 1) := by decide +kernel
theorem dX7_walked_12 : decode cX7_walked 12 = .ok (.iload_n 2, 1) := by decide +kernel
theorem dX7_walked_13 : decode cX7_walked 13 = .ok (.iload_n 3, 1) := by decide +kernel
theorem dX7_walked_14 : decode cX7_walked 14 = .ok (.invokevirtual 203, 3) := by decide +kernel
theorem dX7_walked_17 : decode cX7_walked 17 = .ok (.iconst (-1), 1) := by decide +kernel
theorem dX7_walked_18 : decode cX7_walked 18 = .ok (.if_icmp .ne 5, 3) := by decide +kernel
theorem dX7_walked_21 : decode cX7_walked 21 = .ok (.iconst (-1), 1) := by decide +kernel
theorem dX7_walked_22 : decode cX7_walked 22 = .ok (.ireturn, 1) := by decide +kernel
theorem dX7_walked_23 : decode cX7_walked 23 = .ok (.iload 4, 2) := by decide +kernel
theorem dX7_walked_25 : decode cX7_walked 25 = .ok (.ifCond .ne 10, 3) := by decide +kernel
theorem dX7_walked_28 : decode cX7_walked 28 = .ok (.aload_n 0, 1) := by decide +kernel
theorem dX7_walked_29 : decode cX7_walked 29 = .ok (.getfield 189, 3) := by decide +kernel
theorem dX7_walked_32 : decode cX7_walked 32 = .ok (.goto 7, 3) := by decide +kernel
theorem dX7_walked_35 : decode cX7_walked 35 = .ok (.aload_n 0, 1) := by decide +kernel
theorem dX7_walked_36 : decode cX7_walked 36 = .ok (.getfield 200, 3) := by decide +kernel
theorem dX7_walked_39 : decode cX7_walked 39 = .ok (.ireturn, 1) := by decide +kernel
set_option maxRecDepth 20000 in
theorem ggX7_count_X7_inCup : GoodIn wsX7_count wsX7_inCup := goodIn_r _ [15, 16, 17, 18, 19, 20, 21, 22, 23, 24, 25, 26, 27, 28, 29, 30, 31, 32, 33, 34, 35, 36, 37, 38, 39, 40, 41, 42, 43, 44, 45, 46, 47, 48, 49, 50, 51, 52, 53, 54, 55] (by decide +kernel) (by decide +kernel)
set_option maxRecDepth 20000 in
theorem gX7_count_X7_inCup : GoodIn wsX7_count (wsV RX7 124 RX7 yX7_inCup wsX7_inCup) := goodIn_app (goodIn_of _ (by decide +kernel)) ggX7_count_X7_inCup
theorem dX7_count_0 : decode cX7_count 0 = .ok (.iconst 0, 1) := by decide +kernel
theorem dX7_count_1 : decode cX7_count 1 = .ok (.istore_n 2, 1) := by decide +kernel
theorem dX7_count_2 : decode cX7_count 2 = .ok (.iconst 0, 1) := by decide +kernel
theorem dX7_count_3 : decode cX7_count 3 = .ok (.istore_n 3, 1) := by decide +kernel
theorem dX7_count_4 : decode cX7_count 4 = .ok (.iload_n 3, 1) := by decide +kernel
theorem dX7_count_5 : decode cX7_count 5 = .ok (.sipush 180, 3) := by decide +kernel
theorem dX7_count_8 : decode cX7_count 8 = .ok (.if_icmp .ge 23, 3) := by decide +kernel
theorem dX7_count_11 : decode cX7_count 11 = .ok (.iload_n 1, 1) := by decide +kernel
theorem dX7_count_12 : decode cX7_count 12 = .ok (.bipush 7, 2) := by decide +kernel
theorem dX7_count_14 : decode cX7_count 14 = .ok (.if_icmp .ne 17, 3) := by decide +kernel
theorem dX7_count_17 : decode cX7_count 17 = .ok (.iload_n 2, 1) := by decide +kernel
theorem dX7_count_18 : decode cX7_count 18 = .ok (.aload_n 0, 1) := by decide +kernel
theorem dX7_count_19 : decode cX7_count 19 = .ok (.iload_n 3, 1) := by decide +kernel
theorem dX7_count_20 : decode cX7_count 20 = .ok (.invokevirtual 124, 3) := by decide +kernel
theorem dX7_count_23 : decode cX7_count 23 = .ok (.iadd, 1) := by decide +kernel
theorem dX7_count_24 : decode cX7_count 24 = .ok (.istore_n 2, 1) := by decide +kernel
theorem dX7_count_25 : decode cX7_count 25 = .ok (.iinc 3 1, 3) := by decide +kernel
theorem dX7_count_28 : decode cX7_count 28 = .ok (.goto (-24), 3) := by decide +kernel
theorem dX7_count_31 : decode cX7_count 31 = .ok (.iload_n 1, 1) := by decide +kernel
theorem dX7_count_32 : decode cX7_count 32 = .ok (.tableswitch 112 0 10 #[60, 65, 70, 75, 80, 85, 90, 95, 97, 102, 107], 60) := by decide +kernel
theorem dX7_count_92 : decode cX7_count 92 = .ok (.aload_n 0, 1) := by decide +kernel
theorem dX7_count_93 : decode cX7_count 93 = .ok (.getfield 100, 3) := by decide +kernel
theorem dX7_count_96 : decode cX7_count 96 = .ok (.ireturn, 1) := by decide +kernel
theorem dX7_count_97 : decode cX7_count 97 = .ok (.aload_n 0, 1) := by decide +kernel
theorem dX7_count_98 : decode cX7_count 98 = .ok (.getfield 92, 3) := by decide +kernel
theorem dX7_count_101 : decode cX7_count 101 = .ok (.ireturn, 1) := by decide +kernel
theorem dX7_count_102 : decode cX7_count 102 = .ok (.aload_n 0, 1) := by decide +kernel
theorem dX7_count_103 : decode cX7_count 103 = .ok (.getfield 143, 3) := by decide +kernel
theorem dX7_count_106 : decode cX7_count 106 = .ok (.ireturn, 1) := by decide +kernel
theorem dX7_count_107 : decode cX7_count 107 = .ok (.aload_n 0, 1) := by decide +kernel
theorem dX7_count_108 : decode cX7_count 108 = .ok (.getfield 134, 3) := by decide +kernel
theorem dX7_count_111 : decode cX7_count 111 = .ok (.ireturn, 1) := by decide +kernel
theorem dX7_count_112 : decode cX7_count 112 = .ok (.aload_n 0, 1) := by decide +kernel
theorem dX7_count_113 : decode cX7_count 113 = .ok (.getfield 131, 3) := by decide +kernel
theorem dX7_count_116 : decode cX7_count 116 = .ok (.ireturn, 1) := by decide +kernel
theorem dX7_count_117 : decode cX7_count 117 = .ok (.aload_n 0, 1) := by decide +kernel
theorem dX7_count_118 : decode cX7_count 118 = .ok (.getfield 137, 3) := by decide +kernel
theorem dX7_count_121 : decode cX7_count 121 = .ok (.ireturn, 1) := by decide +kernel
theorem dX7_count_122 : decode cX7_count 122 = .ok (.aload_n 0, 1) := by decide +kernel
theorem dX7_count_123 : decode cX7_count 123 = .ok (.getfield 180, 3) := by decide +kernel
theorem dX7_count_126 : decode cX7_count 126 = .ok (.ireturn, 1) := by decide +kernel
theorem dX7_count_127 : decode cX7_count 127 = .ok (.iload_n 2, 1) := by decide +kernel
theorem dX7_count_128 : decode cX7_count 128 = .ok (.ireturn, 1) := by decide +kernel
theorem dX7_count_129 : decode cX7_count 129 = .ok (.aload_n 0, 1) := by decide +kernel
theorem dX7_count_130 : decode cX7_count 130 = .ok (.getfield 156, 3) := by decide +kernel
theorem dX7_count_133 : decode cX7_count 133 = .ok (.ireturn, 1) := by decide +kernel
theorem dX7_count_134 : decode cX7_count 134 = .ok (.aload_n 0, 1) := by decide +kernel
theorem dX7_count_135 : decode cX7_count 135 = .ok (.getfield 165, 3) := by decide +kernel
theorem dX7_count_138 : decode cX7_count 138 = .ok (.ireturn, 1) := by decide +kernel
theorem dX7_count_139 : decode cX7_count 139 = .ok (.aload_n 0, 1) := by decide +kernel
theorem dX7_count_140 : decode cX7_count 140 = .ok (.getfield 168, 3) := by decide +kernel
theorem dX7_count_143 : decode cX7_count 143 = .ok (.ireturn, 1) := by decide +kernel
theorem dX7_count_144 : decode cX7_count 144 = .ok (.iconst (-1), 1) := by decide +kernel
theorem dX7_count_145 : decode cX7_count 145 = .ok (.ireturn, 1) := by decide +kernel
theorem dJ6_bitCount_0f7a4_0 : decode cJ6_bitCount_0f7a4 0 = .ok (.iload_n 0, 1) := by decide +kernel
theorem dJ6_bitCount_0f7a4_1 : decode cJ6_bitCount_0f7a4 1 = .ok (.iload_n 0, 1) := by decide +kernel
theorem dJ6_bitCount_0f7a4_2 : decode cJ6_bitCount_0f7a4 2 = .ok (.iconst 1, 1) := by decide +kernel
theorem dJ6_bitCount_0f7a4_3 : decode cJ6_bitCount_0f7a4 3 = .ok (.iushr, 1) := by decide +kernel
theorem dJ6_bitCount_0f7a4_4 : decode cJ6_bitCount_0f7a4 4 = .ok (.ldc_w 265, 3) := by decide +kernel
theorem dJ6_bitCount_0f7a4_7 : decode cJ6_bitCount_0f7a4 7 = .ok (.iand, 1) := by decide +kernel
theorem dJ6_bitCount_0f7a4_8 : decode cJ6_bitCount_0f7a4 8 = .ok (.isub, 1) := by decide +kernel
theorem dJ6_bitCount_0f7a4_9 : decode cJ6_bitCount_0f7a4 9 = .ok (.istore_n 0, 1) := by decide +kernel
theorem dJ6_bitCount_0f7a4_10 : decode cJ6_bitCount_0f7a4 10 = .ok (.iload_n 0, 1) := by decide +kernel
theorem dJ6_bitCount_0f7a4_11 : decode cJ6_bitCount_0f7a4 11 = .ok (.ldc_w 266, 3) := by decide +kernel
theorem dJ6_bitCount_0f7a4_14 : decode cJ6_bitCount_0f7a4 14 = .ok (.iand, 1) := by decide +kernel
theorem dJ6_bitCount_0f7a4_15 : decode cJ6_bitCount_0f7a4 15 = .ok (.iload_n 0, 1) := by decide +kernel
theorem dJ6_bitCount_0f7a4_16 : decode cJ6_bitCount_0f7a4 16 = .ok (.iconst 2, 1) := by decide +kernel
theorem dJ6_bitCount_0f7a4_17 : decode cJ6_bitCount_0f7a4 17 = .ok (.iushr, 1) := by decide +kernel
theorem dJ6_bitCount_0f7a4_18 : decode cJ6_bitCount_0f7a4 18 = .ok (.ldc_w 266, 3) := by decide +kernel
theorem dJ6_bitCount_0f7a4_21 : decode cJ6_bitCount_0f7a4 21 = .ok (.iand, 1) := by decide +kernel
theorem dJ6_bitCount_0f7a4_22 : decode cJ6_bitCount_0f7a4 22 = .ok (.iadd, 1) := by decide +kernel
theorem dJ6_bitCount_0f7a4_23 : decode cJ6_bitCount_0f7a4 23 = .ok (.istore_n 0, 1) := by decide +kernel
theorem dJ6_bitCount_0f7a4_24 : decode cJ6_bitCount_0f7a4 24 = .ok (.iload_n 0, 1) := by decide +kernel
theorem dJ6_bitCount_0f7a4_25 : decode cJ6_bitCount_0f7a4 25 = .ok (.iload_n 0, 1) := by decide +kernel
theorem dJ6_bitCount_0f7a4_26 : decode cJ6_bitCount_0f7a4 26 = .ok (.iconst 4, 1) := by decide +kernel
theorem dJ6_bitCount_0f7a4_27 : decode cJ6_bitCount_0f7a4 27 = .ok (.iushr, 1) := by decide +kernel
theorem dJ6_bitCount_0f7a4_28 : decode cJ6_bitCount_0f7a4 28 = .ok (.iadd, 1) := by decide +kernel
theorem dJ6_bitCount_0f7a4_29 : decode cJ6_bitCount_0f7a4 29 = .ok (.ldc_w 267, 3) := by decide +kernel
theorem dJ6_bitCount_0f7a4_32 : decode cJ6_bitCount_0f7a4 32 = .ok (.iand, 1) := by decide +kernel
theorem dJ6_bitCount_0f7a4_33 : decode cJ6_bitCount_0f7a4 33 = .ok (.istore_n 0, 1) := by decide +kernel
theorem dJ6_bitCount_0f7a4_34 : decode cJ6_bitCount_0f7a4 34 = .ok (.iload_n 0, 1) := by decide +kernel
theorem dJ6_bitCount_0f7a4_35 : decode cJ6_bitCount_0f7a4 35 = .ok (.iload_n 0, 1) := by decide +kernel
theorem dJ6_bitCount_0f7a4_36 : decode cJ6_bitCount_0f7a4 36 = .ok (.bipush 8, 2) := by decide +kernel
theorem dJ6_bitCount_0f7a4_38 : decode cJ6_bitCount_0f7a4 38 = .ok (.iushr, 1) := by decide +kernel
theorem dJ6_bitCount_0f7a4_39 : decode cJ6_bitCount_0f7a4 39 = .ok (.iadd, 1) := by decide +kernel
theorem dJ6_bitCount_0f7a4_40 : decode cJ6_bitCount_0f7a4 40 = .ok (.istore_n 0, 1) := by decide +kernel
theorem dJ6_bitCount_0f7a4_41 : decode cJ6_bitCount_0f7a4 41 = .ok (.iload_n 0, 1) := by decide +kernel
theorem dJ6_bitCount_0f7a4_42 : decode cJ6_bitCount_0f7a4 42 = .ok (.iload_n 0, 1) := by decide +kernel
theorem dJ6_bitCount_0f7a4_43 : decode cJ6_bitCount_0f7a4 43 = .ok (.bipush 16, 2) := by decide +kernel
theorem dJ6_bitCount_0f7a4_45 : decode cJ6_bitCount_0f7a4 45 = .ok (.iushr, 1) := by decide +kernel
theorem dJ6_bitCount_0f7a4_46 : decode cJ6_bitCount_0f7a4 46 = .ok (.iadd, 1) := by decide +kernel
theorem dJ6_bitCount_0f7a4_47 : decode cJ6_bitCount_0f7a4 47 = .ok (.istore_n 0, 1) := by decide +kernel
theorem dJ6_bitCount_0f7a4_48 : decode cJ6_bitCount_0f7a4 48 = .ok (.iload_n 0, 1) := by decide +kernel
theorem dJ6_bitCount_0f7a4_49 : decode cJ6_bitCount_0f7a4 49 = .ok (.bipush 63, 2) := by decide +kernel
theorem dJ6_bitCount_0f7a4_51 : decode cJ6_bitCount_0f7a4 51 = .ok (.iand, 1) := by decide +kernel
theorem dJ6_bitCount_0f7a4_52 : decode cJ6_bitCount_0f7a4 52 = .ok (.ireturn, 1) := by decide +kernel
theorem dJ9_abs_0f7a4_0 : decode cJ9_abs_0f7a4 0 = .ok (.iload_n 0, 1) := by decide +kernel
theorem dJ9_abs_0f7a4_1 : decode cJ9_abs_0f7a4 1 = .ok (.ifCond .ge 8, 3) := by decide +kernel
theorem dJ9_abs_0f7a4_4 : decode cJ9_abs_0f7a4 4 = .ok (.iload_n 0, 1) := by decide +kernel
theorem dJ9_abs_0f7a4_5 : decode cJ9_abs_0f7a4 5 = .ok (.ineg, 1) := by decide +kernel
theorem dJ9_abs_0f7a4_6 : decode cJ9_abs_0f7a4 6 = .ok (.goto 4, 3) := by decide +kernel
theorem dJ9_abs_0f7a4_9 : decode cJ9_abs_0f7a4 9 = .ok (.iload_n 0, 1) := by decide +kernel
theorem dJ9_abs_0f7a4_10 : decode cJ9_abs_0f7a4 10 = .ok (.ireturn, 1) := by decide +kernel
theorem dJ9_max_7cf53_0 : decode cJ9_max_7cf53 0 = .ok (.iload_n 0, 1) := by decide +kernel
theorem dJ9_max_7cf53_1 : decode cJ9_max_7cf53 1 = .ok (.iload_n 1, 1) := by decide +kernel
theorem dJ9_max_7cf53_2 : decode cJ9_max_7cf53 2 = .ok (.if_icmp .lt 7, 3) := by decide +kernel
theorem dJ9_max_7cf53_5 : decode cJ9_max_7cf53 5 = .ok (.iload_n 0, 1) := by decide +kernel
theorem dJ9_max_7cf53_6 : decode cJ9_max_7cf53 6 = .ok (.goto 4, 3) := by decide +kernel
theorem dJ9_max_7cf53_9 : decode cJ9_max_7cf53 9 = .ok (.iload_n 1, 1) := by decide +kernel
theorem dJ9_max_7cf53_10 : decode cJ9_max_7cf53 10 = .ok (.ireturn, 1) := by decide +kernel
theorem dJ9_min_7cf53_0 : decode cJ9_min_7cf53 0 = .ok (.iload_n 0, 1) := by decide +kernel
theorem dJ9_min_7cf53_1 : decode cJ9_min_7cf53 1 = .ok (.iload_n 1, 1) := by decide +kernel
theorem dJ9_min_7cf53_2 : decode cJ9_min_7cf53 2 = .ok (.if_icmp .gt 7, 3) := by decide +kernel
theorem dJ9_min_7cf53_5 : decode cJ9_min_7cf53 5 = .ok (.iload_n 0, 1) := by decide +kernel
theorem dJ9_min_7cf53_6 : decode cJ9_min_7cf53 6 = .ok (.goto 4, 3) := by decide +kernel
theorem dJ9_min_7cf53_9 : decode cJ9_min_7cf53 9 = .ok (.iload_n 1, 1) := by decide +kernel
theorem dJ9_min_7cf53_10 : decode cJ9_min_7cf53 10 = .ok (.ireturn, 1) := by decide +kernel
theorem dJxa1e45_init_da8c8_0 : decode cJxa1e45_init_da8c8 0 = .ok (.aload_n 0, 1) := by decide +kernel
theorem dJxa1e45_init_da8c8_1 : decode cJxa1e45_init_da8c8 1 = .ok (.invokespecial 1, 3) := by decide +kernel
theorem dJxa1e45_init_da8c8_4 : decode cJxa1e45_init_da8c8 4 = .ok (.return_, 1) := by decide +kernel
set_option maxRecDepth 20000 in
theorem ggJxc12de_init_da8c8_Jxa1e45_init_da8c8 : GoodIn wsJxc12de_init_da8c8 wsJxa1e45_init_da8c8 := goodIn_r _ [5, 6, 7, 8] (by decide +kernel) (by decide +kernel)
set_option maxRecDepth 20000 in
theorem gJxc12de_init_da8c8_Jxa1e45_init_da8c8 : GoodIn wsJxc12de_init_da8c8 (wsJxa1e45_init_da8c8) := ggJxc12de_init_da8c8_Jxa1e45_init_da8c8
theorem dJxc12de_init_da8c8_0 : decode cJxc12de_init_da8c8 0 = .ok (.aload_n 0, 1) := by decide +kernel
theorem dJxc12de_init_da8c8_1 : decode cJxc12de_init_da8c8 1 = .ok (.invokespecial 1, 3) := by decide +kernel
theorem dJxc12de_init_da8c8_4 : decode cJxc12de_init_da8c8 4 = .ok (.aload_n 0, 1) := by decide +kernel
theorem dJxc12de_init_da8c8_5 : decode cJxc12de_init_da8c8 5 = .ok (.iconst 0, 1) := by decide +kernel
theorem dJxc12de_init_da8c8_6 : decode cJxc12de_init_da8c8 6 = .ok (.putfield 7, 3) := by decide +kernel
theorem dJxc12de_init_da8c8_9 : decode cJxc12de_init_da8c8 9 = .ok (.return_, 1) := by decide +kernel
set_option maxRecDepth 20000 in
theorem ggJx4a65c_init_da8c8_Jxc12de_init_da8c8 : GoodIn wsJx4a65c_init_da8c8 wsJxc12de_init_da8c8 := goodIn_r _ [6, 7, 8, 9, 10, 11, 12, 13, 14, 15, 16, 17] (by decide +kernel) (by decide +kernel)
set_option maxRecDepth 20000 in
theorem gJx4a65c_init_da8c8_Jxc12de_init_da8c8 : GoodIn wsJx4a65c_init_da8c8 (wsJxc12de_init_da8c8) := ggJx4a65c_init_da8c8_Jxc12de_init_da8c8
theorem dJx4a65c_init_da8c8_0 : decode cJx4a65c_init_da8c8 0 = .ok (.aload_n 0, 1) := by decide +kernel
theorem dJx4a65c_init_da8c8_1 : decode cJx4a65c_init_da8c8 1 = .ok (.invokespecial 1, 3) := by decide +kernel
theorem dJx4a65c_init_da8c8_4 : decode cJx4a65c_init_da8c8 4 = .ok (.aload_n 0, 1) := by decide +kernel
theorem dJx4a65c_init_da8c8_5 : decode cJx4a65c_init_da8c8 5 = .ok (.getstatic 39, 3) := by decide +kernel
theorem dJx4a65c_init_da8c8_8 : decode cJx4a65c_init_da8c8 8 = .ok (.putfield 9, 3) := by decide +kernel
theorem dJx4a65c_init_da8c8_11 : decode cJx4a65c_init_da8c8 11 = .ok (.return_, 1) := by decide +kernel
set_option maxRecDepth 20000 in
theorem ggJx4a65c_grow_92f84_J8_newLength_cabcc : GoodIn wsJx4a65c_grow_92f84 wsJ8_newLength_cabcc := goodIn_r _ [11, 12, 4, 5, 6, 13, 14, 15, 10, 16] (by decide +kernel) (by decide +kernel)
set_option maxRecDepth 20000 in
theorem gJx4a65c_grow_92f84_J8_newLength_cabcc : GoodIn wsJx4a65c_grow_92f84 (va_wsS RJx4a65c 73 yJ8_newLength_cabcc wsJ8_newLength_cabcc) := goodIn_app (goodIn_of _ (by decide +kernel)) ggJx4a65c_grow_92f84_J8_newLength_cabcc
set_option maxRecDepth 20000 in
theorem ggJx4a65c_grow_92f84_J7_copyOf_1904c : GoodIn wsJx4a65c_grow_92f84 wsJ7_copyOf_1904c := goodIn_r _ [20, 21, 22, 23, 24, 25, 26, 19, 27, 28, 29, 30, 31, 5, 32, 33, 34, 35, 36] (by decide +kernel) (by decide +kernel)
set_option maxRecDepth 20000 in
theorem gJx4a65c_grow_92f84_J7_copyOf_1904c : GoodIn wsJx4a65c_grow_92f84 (va_wsS RJx4a65c 66 yJ7_copyOf_1904c wsJ7_copyOf_1904c) := goodIn_app (goodIn_of _ (by decide +kernel)) ggJx4a65c_grow_92f84_J7_copyOf_1904c
theorem dJx4a65c_grow_92f84_0 : decode cJx4a65c_grow_92f84 0 = .ok (.aload_n 0, 1) := by decide +kernel
theorem dJx4a65c_grow_92f84_1 : decode cJx4a65c_grow_92f84 1 = .ok (.getfield 9, 3) := by decide +kernel
theorem dJx4a65c_grow_92f84_4 : decode cJx4a65c_grow_92f84 4 = .ok (.arraylength, 1) := by decide +kernel
theorem dJx4a65c_grow_92f84_5 : decode cJx4a65c_grow_92f84 5 = .ok (.istore_n 2, 1) := by decide +kernel
theorem dJx4a65c_grow_92f84_6 : decode cJx4a65c_grow_92f84 6 = .ok (.iload_n 2, 1) := by decide +kernel
theorem dJx4a65c_grow_92f84_7 : decode cJx4a65c_grow_92f84 7 = .ok (.ifCond .gt 13, 3) := by decide +kernel
theorem dJx4a65c_grow_92f84_10 : decode cJx4a65c_grow_92f84 10 = .ok (.aload_n 0, 1) := by decide +kernel
theorem dJx4a65c_grow_92f84_11 : decode cJx4a65c_grow_92f84 11 = .ok (.getfield 9, 3) := by decide +kernel
theorem dJx4a65c_grow_92f84_14 : decode cJx4a65c_grow_92f84 14 = .ok (.getstatic 39, 3) := by decide +kernel
theorem dJx4a65c_grow_92f84_17 : decode cJx4a65c_grow_92f84 17 = .ok (.if_acmp .eq 28, 3) := by decide +kernel
theorem dJx4a65c_grow_92f84_20 : decode cJx4a65c_grow_92f84 20 = .ok (.iload_n 2, 1) := by decide +kernel
theorem dJx4a65c_grow_92f84_21 : decode cJx4a65c_grow_92f84 21 = .ok (.iload_n 1, 1) := by decide +kernel
theorem dJx4a65c_grow_92f84_22 : decode cJx4a65c_grow_92f84 22 = .ok (.iload_n 2, 1) := by decide +kernel
theorem dJx4a65c_grow_92f84_23 : decode cJx4a65c_grow_92f84 23 = .ok (.isub, 1) := by decide +kernel
theorem dJx4a65c_grow_92f84_24 : decode cJx4a65c_grow_92f84 24 = .ok (.iload_n 2, 1) := by decide +kernel
theorem dJx4a65c_grow_92f84_25 : decode cJx4a65c_grow_92f84 25 = .ok (.iconst 1, 1) := by decide +kernel
theorem dJx4a65c_grow_92f84_26 : decode cJx4a65c_grow_92f84 26 = .ok (.ishr, 1) := by decide +kernel
theorem dJx4a65c_grow_92f84_27 : decode cJx4a65c_grow_92f84 27 = .ok (.invokestatic 73, 3) := by decide +kernel
theorem dJx4a65c_grow_92f84_30 : decode cJx4a65c_grow_92f84 30 = .ok (.istore_n 3, 1) := by decide +kernel
theorem dJx4a65c_grow_92f84_31 : decode cJx4a65c_grow_92f84 31 = .ok (.aload_n 0, 1) := by decide +kernel
theorem dJx4a65c_grow_92f84_32 : decode cJx4a65c_grow_92f84 32 = .ok (.aload_n 0, 1) := by decide +kernel
theorem dJx4a65c_grow_92f84_33 : decode cJx4a65c_grow_92f84 33 = .ok (.getfield 9, 3) := by decide +kernel
theorem dJx4a65c_grow_92f84_36 : decode cJx4a65c_grow_92f84 36 = .ok (.iload_n 3, 1) := by decide +kernel
theorem dJx4a65c_grow_92f84_37 : decode cJx4a65c_grow_92f84 37 = .ok (.invokestatic 66, 3) := by decide +kernel
theorem dJx4a65c_grow_92f84_40 : decode cJx4a65c_grow_92f84 40 = .ok (.dup_x1, 1) := by decide +kernel
theorem dJx4a65c_grow_92f84_41 : decode cJx4a65c_grow_92f84 41 = .ok (.putfield 9, 3) := by decide +kernel
theorem dJx4a65c_grow_92f84_44 : decode cJx4a65c_grow_92f84 44 = .ok (.areturn, 1) := by decide +kernel
theorem dJx4a65c_grow_92f84_45 : decode cJx4a65c_grow_92f84 45 = .ok (.aload_n 0, 1) := by decide +kernel
theorem dJx4a65c_grow_92f84_46 : decode cJx4a65c_grow_92f84 46 = .ok (.bipush 10, 2) := by decide +kernel
theorem dJx4a65c_grow_92f84_48 : decode cJx4a65c_grow_92f84 48 = .ok (.iload_n 1, 1) := by decide +kernel
theorem dJx4a65c_grow_92f84_49 : decode cJx4a65c_grow_92f84 49 = .ok (.invokestatic 79, 3) := by decide +kernel
theorem dJx4a65c_grow_92f84_52 : decode cJx4a65c_grow_92f84 52 = .ok (.anewarray 7, 3) := by decide +kernel
theorem dJx4a65c_grow_92f84_55 : decode cJx4a65c_grow_92f84 55 = .ok (.dup_x1, 1) := by decide +kernel
theorem dJx4a65c_grow_92f84_56 : decode cJx4a65c_grow_92f84 56 = .ok (.putfield 9, 3) := by decide +kernel
theorem dJx4a65c_grow_92f84_59 : decode cJx4a65c_grow_92f84 59 = .ok (.areturn, 1) := by decide +kernel
set_option maxRecDepth 20000 in
theorem ggJx4a65c_grow_d5877_Jx4a65c_grow_92f84 : GoodIn wsJx4a65c_grow_d5877 wsJx4a65c_grow_92f84 := goodIn_r _ [6, 7, 8, 9, 10, 11, 12, 13, 14, 15, 16, 17, 18, 19, 20, 21, 22, 23, 24, 25, 26, 27, 28, 29, 30, 31, 32, 33, 34, 35, 36, 37, 38, 39, 40, 41, 42, 43, 44, 45] (by decide +kernel) (by decide +kernel)
set_option maxRecDepth 20000 in
theorem gJx4a65c_grow_d5877_Jx4a65c_grow_92f84 : GoodIn wsJx4a65c_grow_d5877 (wsV RJx4a65c 69 RJx4a65c yJx4a65c_grow_92f84 wsJx4a65c_grow_92f84) := goodIn_app (goodIn_of _ (by decide +kernel)) ggJx4a65c_grow_d5877_Jx4a65c_grow_92f84
theorem dJx4a65c_grow_d5877_0 : decode cJx4a65c_grow_d5877 0 = .ok (.aload_n 0, 1) := by decide +kernel
theorem dJx4a65c_grow_d5877_1 : decode cJx4a65c_grow_d5877 1 = .ok (.aload_n 0, 1) := by decide +kernel
theorem dJx4a65c_grow_d5877_2 : decode cJx4a65c_grow_d5877 2 = .ok (.getfield 48, 3) := by decide +kernel
theorem dJx4a65c_grow_d5877_5 : decode cJx4a65c_grow_d5877 5 = .ok (.iconst 1, 1) := by decide +kernel
theorem dJx4a65c_grow_d5877_6 : decode cJx4a65c_grow_d5877 6 = .ok (.iadd, 1) := by decide +kernel
theorem dJx4a65c_grow_d5877_7 : decode cJx4a65c_grow_d5877 7 = .ok (.invokevirtual 69, 3) := by decide +kernel
theorem dJx4a65c_grow_d5877_10 : decode cJx4a65c_grow_d5877 10 = .ok (.areturn, 1) := by decide +kernel
theorem dJx4a65c_size_8abf5_0 : decode cJx4a65c_size_8abf5 0 = .ok (.aload_n 0, 1) := by decide +kernel
theorem dJx4a65c_size_8abf5_1 : decode cJx4a65c_size_8abf5 1 = .ok (.getfield 48, 3) := by decide +kernel
theorem dJx4a65c_size_8abf5_4 : decode cJx4a65c_size_8abf5 4 = .ok (.ireturn, 1) := by decide +kernel
theorem dJx4a65c_elementData_915e3_0 : decode cJx4a65c_elementData_915e3 0 = .ok (.aload_n 0, 1) := by decide +kernel
theorem dJx4a65c_elementData_915e3_1 : decode cJx4a65c_elementData_915e3 1 = .ok (.getfield 9, 3) := by decide +kernel
theorem dJx4a65c_elementData_915e3_4 : decode cJx4a65c_elementData_915e3 4 = .ok (.iload_n 1, 1) := by decide +kernel
theorem dJx4a65c_elementData_915e3_5 : decode cJx4a65c_elementData_915e3 5 = .ok (.aaload, 1) := by decide +kernel
theorem dJx4a65c_elementData_915e3_6 : decode cJx4a65c_elementData_915e3 6 = .ok (.areturn, 1) := by decide +kernel
set_option maxRecDepth 20000 in
theorem ggJx4a65c_get_915e3_J15_checkIndex_7cf53 : GoodIn wsJx4a65c_get_915e3 wsJ15_checkIndex_7cf53 := goodIn_r _ [5, 6, 7, 8, 9] (by decide +kernel) (by decide +kernel)
set_option maxRecDepth 20000 in
theorem gJx4a65c_get_915e3_J15_checkIndex_7cf53 : GoodIn wsJx4a65c_get_915e3 (va_wsS RJx4a65c 118 yJ15_checkIndex_7cf53 wsJ15_checkIndex_7cf53) := goodIn_app (goodIn_of _ (by decide +kernel)) ggJx4a65c_get_915e3_J15_checkIndex_7cf53
set_option maxRecDepth 20000 in
theorem ggJx4a65c_get_915e3_Jx4a65c_elementData_915e3 : GoodIn wsJx4a65c_get_915e3 wsJx4a65c_elementData_915e3 := goodIn_r _ [14, 15, 16, 17, 18] (by decide +kernel) (by decide +kernel)
set_option maxRecDepth 20000 in
theorem gJx4a65c_get_915e3_Jx4a65c_elementData_915e3 : GoodIn wsJx4a65c_get_915e3 (wsV RJx4a65c 123 RJx4a65c yJx4a65c_elementData_915e3 wsJx4a65c_elementData_915e3) := goodIn_app (goodIn_of _ (by decide +kernel)) ggJx4a65c_get_915e3_Jx4a65c_elementData_915e3
theorem dJx4a65c_get_915e3_0 : decode cJx4a65c_get_915e3 0 = .ok (.iload_n 1, 1) := by decide +kernel
theorem dJx4a65c_get_915e3_1 : decode cJx4a65c_get_915e3 1 = .ok (.aload_n 0, 1) := by decide +kernel
theorem dJx4a65c_get_915e3_2 : decode cJx4a65c_get_915e3 2 = .ok (.getfield 48, 3) := by decide +kernel
theorem dJx4a65c_get_915e3_5 : decode cJx4a65c_get_915e3 5 = .ok (.invokestatic 118, 3) := by decide +kernel
theorem dJx4a65c_get_915e3_8 : decode cJx4a65c_get_915e3 8 = .ok (.pop, 1) := by decide +kernel
theorem dJx4a65c_get_915e3_9 : decode cJx4a65c_get_915e3 9 = .ok (.aload_n 0, 1) := by decide +kernel
theorem dJx4a65c_get_915e3_10 : decode cJx4a65c_get_915e3 10 = .ok (.iload_n 1, 1) := by decide +kernel
theorem dJx4a65c_get_915e3_11 : decode cJx4a65c_get_915e3 11 = .ok (.invokevirtual 123, 3) := by decide +kernel
theorem dJx4a65c_get_915e3_14 : decode cJx4a65c_get_915e3 14 = .ok (.areturn, 1) := by decide +kernel
set_option maxRecDepth 20000 in
theorem ggJx4a65c_add_72be8_Jx4a65c_grow_d5877 : GoodIn wsJx4a65c_add_72be8 wsJx4a65c_grow_d5877 := goodIn_r _ [6, 1, 7, 8, 9, 5, 10, 11, 12, 13, 14, 15, 16, 17, 18, 19, 20, 21, 22, 23, 24, 25, 26, 27, 28, 29, 30, 31, 32, 33, 34, 35, 36, 37, 38, 39, 40, 41, 42, 43, 44, 45, 46, 47, 48, 49] (by decide +kernel) (by decide +kernel)
set_option maxRecDepth 20000 in
theorem gJx4a65c_add_72be8_Jx4a65c_grow_d5877 : GoodIn wsJx4a65c_add_72be8 (wsV RJx4a65c 129 RJx4a65c yJx4a65c_grow_d5877 wsJx4a65c_grow_d5877) := goodIn_app (goodIn_of _ (by decide +kernel)) ggJx4a65c_add_72be8_Jx4a65c_grow_d5877
theorem dJx4a65c_add_72be8_0 : decode cJx4a65c_add_72be8 0 = .ok (.iload_n 3, 1) := by decide +kernel
theorem dJx4a65c_add_72be8_1 : decode cJx4a65c_add_72be8 1 = .ok (.aload_n 2, 1) := by decide +kernel
theorem dJx4a65c_add_72be8_2 : decode cJx4a65c_add_72be8 2 = .ok (.arraylength, 1) := by decide +kernel
theorem dJx4a65c_add_72be8_3 : decode cJx4a65c_add_72be8 3 = .ok (.if_icmp .ne 8, 3) := by decide +kernel
theorem dJx4a65c_add_72be8_6 : decode cJx4a65c_add_72be8 6 = .ok (.aload_n 0, 1) := by decide +kernel
theorem dJx4a65c_add_72be8_7 : decode cJx4a65c_add_72be8 7 = .ok (.invokevirtual 129, 3) := by decide +kernel
theorem dJx4a65c_add_72be8_10 : decode cJx4a65c_add_72be8 10 = .ok (.astore_n 2, 1) := by decide +kernel
theorem dJx4a65c_add_72be8_11 : decode cJx4a65c_add_72be8 11 = .ok (.aload_n 2, 1) := by decide +kernel
theorem dJx4a65c_add_72be8_12 : decode cJx4a65c_add_72be8 12 = .ok (.iload_n 3, 1) := by decide +kernel
theorem dJx4a65c_add_72be8_13 : decode cJx4a65c_add_72be8 13 = .ok (.aload_n 1, 1) := by decide +kernel
theorem dJx4a65c_add_72be8_14 : decode cJx4a65c_add_72be8 14 = .ok (.aastore, 1) := by decide +kernel
theorem dJx4a65c_add_72be8_15 : decode cJx4a65c_add_72be8 15 = .ok (.aload_n 0, 1) := by decide +kernel
theorem dJx4a65c_add_72be8_16 : decode cJx4a65c_add_72be8 16 = .ok (.iload_n 3, 1) := by decide +kernel
theorem dJx4a65c_add_72be8_17 : decode cJx4a65c_add_72be8 17 = .ok (.iconst 1, 1) := by decide +kernel
theorem dJx4a65c_add_72be8_18 : decode cJx4a65c_add_72be8 18 = .ok (.iadd, 1) := by decide +kernel
theorem dJx4a65c_add_72be8_19 : decode cJx4a65c_add_72be8 19 = .ok (.putfield 48, 3) := by decide +kernel
theorem dJx4a65c_add_72be8_22 : decode cJx4a65c_add_72be8 22 = .ok (.return_, 1) := by decide +kernel
set_option maxRecDepth 20000 in
theorem ggJx4a65c_add_9ea2d_Jx4a65c_add_72be8 : GoodIn wsJx4a65c_add_9ea2d wsJx4a65c_add_72be8 := goodIn_r _ [9, 4, 10, 11, 12, 8, 13, 14, 15, 16, 17, 3, 18, 19, 20, 21, 22, 23, 24, 25, 26, 27, 28, 29, 30, 31, 32, 33, 34, 35, 36, 37, 38, 39, 40, 41, 42, 43, 44, 45, 46, 47, 48, 49, 50, 51, 52, 53, 54, 55] (by decide +kernel) (by decide +kernel)
set_option maxRecDepth 20000 in
theorem gJx4a65c_add_9ea2d_Jx4a65c_add_72be8 : GoodIn wsJx4a65c_add_9ea2d (wsV RJx4a65c 131 RJx4a65c yJx4a65c_add_72be8 wsJx4a65c_add_72be8) := goodIn_app (goodIn_of _ (by decide +kernel)) ggJx4a65c_add_9ea2d_Jx4a65c_add_72be8
theorem dJx4a65c_add_9ea2d_0 : decode cJx4a65c_add_9ea2d 0 = .ok (.aload_n 0, 1) := by decide +kernel
theorem dJx4a65c_add_9ea2d_1 : decode cJx4a65c_add_9ea2d 1 = .ok (.dup, 1) := by decide +kernel
theorem dJx4a65c_add_9ea2d_2 : decode cJx4a65c_add_9ea2d 2 = .ok (.getfield 63, 3) := by decide +kernel
theorem dJx4a65c_add_9ea2d_5 : decode cJx4a65c_add_9ea2d 5 = .ok (.iconst 1, 1) := by decide +kernel
theorem dJx4a65c_add_9ea2d_6 : decode cJx4a65c_add_9ea2d 6 = .ok (.iadd, 1) := by decide +kernel
theorem dJx4a65c_add_9ea2d_7 : decode cJx4a65c_add_9ea2d 7 = .ok (.putfield 63, 3) := by decide +kernel
theorem dJx4a65c_add_9ea2d_10 : decode cJx4a65c_add_9ea2d 10 = .ok (.aload_n 0, 1) := by decide +kernel
theorem dJx4a65c_add_9ea2d_11 : decode cJx4a65c_add_9ea2d 11 = .ok (.aload_n 1, 1) := by decide +kernel
theorem dJx4a65c_add_9ea2d_12 : decode cJx4a65c_add_9ea2d 12 = .ok (.aload_n 0, 1) := by decide +kernel
theorem dJx4a65c_add_9ea2d_13 : decode cJx4a65c_add_9ea2d 13 = .ok (.getfield 9, 3) := by decide +kernel
theorem dJx4a65c_add_9ea2d_16 : decode cJx4a65c_add_9ea2d 16 = .ok (.aload_n 0, 1) := by decide +kernel
theorem dJx4a65c_add_9ea2d_17 : decode cJx4a65c_add_9ea2d 17 = .ok (.getfield 48, 3) := by decide +kernel
theorem dJx4a65c_add_9ea2d_20 : decode cJx4a65c_add_9ea2d 20 = .ok (.invokevirtual 131, 3) := by decide +kernel
theorem dJx4a65c_add_9ea2d_23 : decode cJx4a65c_add_9ea2d 23 = .ok (.iconst 1, 1) := by decide +kernel
theorem dJx4a65c_add_9ea2d_24 : decode cJx4a65c_add_9ea2d 24 = .ok (.ireturn, 1) := by decide +kernel
set_option maxRecDepth 20000 in
theorem ggJ7_copyOf_1904c_J7_copyOf_6403c : GoodIn wsJ7_copyOf_1904c wsJ7_copyOf_6403c := goodIn_r _ [8, 9, 10, 11, 12, 13, 14, 15, 16, 17, 18] (by decide +kernel) (by decide +kernel)
set_option maxRecDepth 20000 in
theorem gJ7_copyOf_1904c_J7_copyOf_6403c : GoodIn wsJ7_copyOf_1904c (va_wsS RJ7 300 yJ7_copyOf_6403c wsJ7_copyOf_6403c) := goodIn_app (goodIn_of _ (by decide +kernel)) ggJ7_copyOf_1904c_J7_copyOf_6403c
theorem dJ7_copyOf_1904c_0 : decode cJ7_copyOf_1904c 0 = .ok (.aload_n 0, 1) := by decide +kernel
theorem dJ7_copyOf_1904c_1 : decode cJ7_copyOf_1904c 1 = .ok (.iload_n 1, 1) := by decide +kernel
theorem dJ7_copyOf_1904c_2 : decode cJ7_copyOf_1904c 2 = .ok (.aload_n 0, 1) := by decide +kernel
theorem dJ7_copyOf_1904c_3 : decode cJ7_copyOf_1904c 3 = .ok (.invokevirtual 86, 3) := by decide +kernel
theorem dJ7_copyOf_1904c_6 : decode cJ7_copyOf_1904c 6 = .ok (.invokestatic 300, 3) := by decide +kernel
theorem dJ7_copyOf_1904c_9 : decode cJ7_copyOf_1904c 9 = .ok (.areturn, 1) := by decide +kernel
theorem dJ7_copyOf_6403c_0 : decode cJ7_copyOf_6403c 0 = .ok (.aload_n 2, 1) := by decide +kernel
theorem dJ7_copyOf_6403c_1 : decode cJ7_copyOf_6403c 1 = .ok (.ldc 110, 2) := by decide +kernel
theorem dJ7_copyOf_6403c_3 : decode cJ7_copyOf_6403c 3 = .ok (.if_acmp .ne 10, 3) := by decide +kernel
theorem dJ7_copyOf_6403c_6 : decode cJ7_copyOf_6403c 6 = .ok (.iload_n 1, 1) := by decide +kernel
theorem dJ7_copyOf_6403c_7 : decode cJ7_copyOf_6403c 7 = .ok (.anewarray 2, 3) := by decide +kernel
theorem dJ7_copyOf_6403c_10 : decode cJ7_copyOf_6403c 10 = .ok (.goto 14, 3) := by decide +kernel
theorem dJ7_copyOf_6403c_13 : decode cJ7_copyOf_6403c 13 = .ok (.aload_n 2, 1) := by decide +kernel
theorem dJ7_copyOf_6403c_14 : decode cJ7_copyOf_6403c 14 = .ok (.invokevirtual 90, 3) := by decide +kernel
theorem dJ7_copyOf_6403c_17 : decode cJ7_copyOf_6403c 17 = .ok (.iload_n 1, 1) := by decide +kernel
theorem dJ7_copyOf_6403c_18 : decode cJ7_copyOf_6403c 18 = .ok (.invokestatic 95, 3) := by decide +kernel
theorem dJ7_copyOf_6403c_21 : decode cJ7_copyOf_6403c 21 = .ok (.checkcast 110, 3) := by decide +kernel
theorem dJ7_copyOf_6403c_24 : decode cJ7_copyOf_6403c 24 = .ok (.astore_n 3, 1) := by decide +kernel
theorem dJ7_copyOf_6403c_25 : decode cJ7_copyOf_6403c 25 = .ok (.aload_n 0, 1) := by decide +kernel
theorem dJ7_copyOf_6403c_26 : decode cJ7_copyOf_6403c 26 = .ok (.iconst 0, 1) := by decide +kernel
theorem dJ7_copyOf_6403c_27 : decode cJ7_copyOf_6403c 27 = .ok (.aload_n 3, 1) := by decide +kernel
theorem dJ7_copyOf_6403c_28 : decode cJ7_copyOf_6403c 28 = .ok (.iconst 0, 1) := by decide +kernel
theorem dJ7_copyOf_6403c_29 : decode cJ7_copyOf_6403c 29 = .ok (.aload_n 0, 1) := by decide +kernel
theorem dJ7_copyOf_6403c_30 : decode cJ7_copyOf_6403c 30 = .ok (.arraylength, 1) := by decide +kernel
theorem dJ7_copyOf_6403c_31 : decode cJ7_copyOf_6403c 31 = .ok (.iload_n 1, 1) := by decide +kernel
theorem dJ7_copyOf_6403c_32 : decode cJ7_copyOf_6403c 32 = .ok (.invokestatic 304, 3) := by decide +kernel
theorem dJ7_copyOf_6403c_35 : decode cJ7_copyOf_6403c 35 = .ok (.invokestatic 150, 3) := by decide +kernel
theorem dJ7_copyOf_6403c_38 : decode cJ7_copyOf_6403c 38 = .ok (.aload_n 3, 1) := by decide +kernel
theorem dJ7_copyOf_6403c_39 : decode cJ7_copyOf_6403c 39 = .ok (.areturn, 1) := by decide +kernel
set_option maxRecDepth 20000 in
theorem ggJ15_checkIndex_7cf53_J3_checkIndex_8e157 : GoodIn wsJ15_checkIndex_7cf53 wsJ3_checkIndex_8e157 := goodIn_r _ [4] (by decide +kernel) (by decide +kernel)
set_option maxRecDepth 20000 in
theorem gJ15_checkIndex_7cf53_J3_checkIndex_8e157 : GoodIn wsJ15_checkIndex_7cf53 (va_wsS RJ15 105 yJ3_checkIndex_8e157 wsJ3_checkIndex_8e157) := goodIn_app (goodIn_of _ (by decide +kernel)) ggJ15_checkIndex_7cf53_J3_checkIndex_8e157
theorem dJ15_checkIndex_7cf53_0 : decode cJ15_checkIndex_7cf53 0 = .ok (.iload_n 0, 1) := by decide +kernel
theorem dJ15_checkIndex_7cf53_1 : decode cJ15_checkIndex_7cf53 1 = .ok (.iload_n 1, 1) := by decide +kernel
theorem dJ15_checkIndex_7cf53_2 : decode cJ15_checkIndex_7cf53 2 = .ok (.aconst_null, 1) := by decide +kernel
theorem dJ15_checkIndex_7cf53_3 : decode cJ15_checkIndex_7cf53 3 = .ok (.invokestatic 105, 3) := by decide +kernel
theorem dJ15_checkIndex_7cf53_6 : decode cJ15_checkIndex_7cf53 6 = .ok (.ireturn, 1) := by decide +kernel
set_option maxRecDepth 20000 in
theorem ggJ8_newLength_cabcc_J8_hugeLength_7cf53 : GoodIn wsJ8_newLength_cabcc wsJ8_hugeLength_7cf53 := goodIn_r _ [9, 5] (by decide +kernel) (by decide +kernel)
set_option maxRecDepth 20000 in
theorem gJ8_newLength_cabcc_J8_hugeLength_7cf53 : GoodIn wsJ8_newLength_cabcc (va_wsS RJ8 201 yJ8_hugeLength_7cf53 wsJ8_hugeLength_7cf53) := goodIn_app (goodIn_of _ (by decide +kernel)) ggJ8_newLength_cabcc_J8_hugeLength_7cf53
theorem dJ8_newLength_cabcc_0 : decode cJ8_newLength_cabcc 0 = .ok (.iload_n 0, 1) := by decide +kernel
theorem dJ8_newLength_cabcc_1 : decode cJ8_newLength_cabcc 1 = .ok (.iload_n 1, 1) := by decide +kernel
theorem dJ8_newLength_cabcc_2 : decode cJ8_newLength_cabcc 2 = .ok (.iload_n 2, 1) := by decide +kernel
theorem dJ8_newLength_cabcc_3 : decode cJ8_newLength_cabcc 3 = .ok (.invokestatic 194, 3) := by decide +kernel
theorem dJ8_newLength_cabcc_6 : decode cJ8_newLength_cabcc 6 = .ok (.iadd, 1) := by decide +kernel
theorem dJ8_newLength_cabcc_7 : decode cJ8_newLength_cabcc 7 = .ok (.istore_n 3, 1) := by decide +kernel
theorem dJ8_newLength_cabcc_8 : decode cJ8_newLength_cabcc 8 = .ok (.iconst 0, 1) := by decide +kernel
theorem dJ8_newLength_cabcc_9 : decode cJ8_newLength_cabcc 9 = .ok (.iload_n 3, 1) := by decide +kernel
theorem dJ8_newLength_cabcc_10 : decode cJ8_newLength_cabcc 10 = .ok (.if_icmp .ge 11, 3) := by decide +kernel
theorem dJ8_newLength_cabcc_13 : decode cJ8_newLength_cabcc 13 = .ok (.iload_n 3, 1) := by decide +kernel
theorem dJ8_newLength_cabcc_14 : decode cJ8_newLength_cabcc 14 = .ok (.ldc 200, 2) := by decide +kernel
theorem dJ8_newLength_cabcc_16 : decode cJ8_newLength_cabcc 16 = .ok (.if_icmp .gt 5, 3) := by decide +kernel
theorem dJ8_newLength_cabcc_19 : decode cJ8_newLength_cabcc 19 = .ok (.iload_n 3, 1) := by decide +kernel
theorem dJ8_newLength_cabcc_20 : decode cJ8_newLength_cabcc 20 = .ok (.ireturn, 1) := by decide +kernel
theorem dJ8_newLength_cabcc_21 : decode cJ8_newLength_cabcc 21 = .ok (.iload_n 0, 1) := by decide +kernel
theorem dJ8_newLength_cabcc_22 : decode cJ8_newLength_cabcc 22 = .ok (.iload_n 1, 1) := by decide +kernel
theorem dJ8_newLength_cabcc_23 : decode cJ8_newLength_cabcc 23 = .ok (.invokestatic 201, 3) := by decide +kernel
theorem dJ8_newLength_cabcc_26 : decode cJ8_newLength_cabcc 26 = .ok (.ireturn, 1) := by decide +kernel
theorem dJ8_hugeLength_7cf53_0 : decode cJ8_hugeLength_7cf53 0 = .ok (.iload_n 0, 1) := by decide +kernel
theorem dJ8_hugeLength_7cf53_1 : decode cJ8_hugeLength_7cf53 1 = .ok (.iload_n 1, 1) := by decide +kernel
theorem dJ8_hugeLength_7cf53_2 : decode cJ8_hugeLength_7cf53 2 = .ok (.iadd, 1) := by decide +kernel
theorem dJ8_hugeLength_7cf53_3 : decode cJ8_hugeLength_7cf53 3 = .ok (.istore_n 2, 1) := by decide +kernel
theorem dJ8_hugeLength_7cf53_4 : decode cJ8_hugeLength_7cf53 4 = .ok (.iload_n 2, 1) := by decide +kernel
theorem dJ8_hugeLength_7cf53_5 : decode cJ8_hugeLength_7cf53 5 = .ok (.ifCond .ge 44, 3) := by decide +kernel
theorem dJ8_hugeLength_7cf53_8 : decode cJ8_hugeLength_7cf53 8 = .ok (.new 204, 3) := by decide +kernel
theorem dJ8_hugeLength_7cf53_11 : decode cJ8_hugeLength_7cf53 11 = .ok (.dup, 1) := by decide +kernel
theorem dJ8_hugeLength_7cf53_12 : decode cJ8_hugeLength_7cf53 12 = .ok (.new 89, 3) := by decide +kernel
theorem dJ8_hugeLength_7cf53_15 : decode cJ8_hugeLength_7cf53 15 = .ok (.dup, 1) := by decide +kernel
theorem dJ8_hugeLength_7cf53_16 : decode cJ8_hugeLength_7cf53 16 = .ok (.invokespecial 91, 3) := by decide +kernel
theorem dJ8_hugeLength_7cf53_19 : decode cJ8_hugeLength_7cf53 19 = .ok (.ldc 206, 2) := by decide +kernel
theorem dJ8_hugeLength_7cf53_21 : decode cJ8_hugeLength_7cf53 21 = .ok (.invokevirtual 94, 3) := by decide +kernel
theorem dJ8_hugeLength_7cf53_24 : decode cJ8_hugeLength_7cf53 24 = .ok (.iload_n 0, 1) := by decide +kernel
theorem dJ8_hugeLength_7cf53_25 : decode cJ8_hugeLength_7cf53 25 = .ok (.invokevirtual 98, 3) := by decide +kernel
theorem dJ8_hugeLength_7cf53_28 : decode cJ8_hugeLength_7cf53 28 = .ok (.ldc 208, 2) := by decide +kernel
theorem dJ8_hugeLength_7cf53_30 : decode cJ8_hugeLength_7cf53 30 = .ok (.invokevirtual 94, 3) := by decide +kernel
theorem dJ8_hugeLength_7cf53_33 : decode cJ8_hugeLength_7cf53 33 = .ok (.iload_n 1, 1) := by decide +kernel
theorem dJ8_hugeLength_7cf53_34 : decode cJ8_hugeLength_7cf53 34 = .ok (.invokevirtual 98, 3) := by decide +kernel
theorem dJ8_hugeLength_7cf53_37 : decode cJ8_hugeLength_7cf53 37 = .ok (.ldc 210, 2) := by decide +kernel
theorem dJ8_hugeLength_7cf53_39 : decode cJ8_hugeLength_7cf53 39 = .ok (.invokevirtual 94, 3) := by decide +kernel
theorem dJ8_hugeLength_7cf53_42 : decode cJ8_hugeLength_7cf53 42 = .ok (.invokevirtual 101, 3) := by decide +kernel
theorem dJ8_hugeLength_7cf53_45 : decode cJ8_hugeLength_7cf53 45 = .ok (.invokespecial 212, 3) := by decide +kernel
theorem dJ8_hugeLength_7cf53_48 : decode cJ8_hugeLength_7cf53 48 = .ok (.athrow, 1) := by decide +kernel
theorem dJ8_hugeLength_7cf53_49 : decode cJ8_hugeLength_7cf53 49 = .ok (.iload_n 2, 1) := by decide +kernel
theorem dJ8_hugeLength_7cf53_50 : decode cJ8_hugeLength_7cf53 50 = .ok (.ldc 200, 2) := by decide +kernel
theorem dJ8_hugeLength_7cf53_52 : decode cJ8_hugeLength_7cf53 52 = .ok (.if_icmp .gt 6, 3) := by decide +kernel
theorem dJ8_hugeLength_7cf53_55 : decode cJ8_hugeLength_7cf53 55 = .ok (.ldc 200, 2) := by decide +kernel
theorem dJ8_hugeLength_7cf53_57 : decode cJ8_hugeLength_7cf53 57 = .ok (.ireturn, 1) := by decide +kernel
theorem dJ8_hugeLength_7cf53_58 : decode cJ8_hugeLength_7cf53 58 = .ok (.iload_n 2, 1) := by decide +kernel
theorem dJ8_hugeLength_7cf53_59 : decode cJ8_hugeLength_7cf53 59 = .ok (.ireturn, 1) := by decide +kernel
theorem dJ3_checkIndex_8e157_0 : decode cJ3_checkIndex_8e157 0 = .ok (.iload_n 0, 1) := by decide +kernel
theorem dJ3_checkIndex_8e157_1 : decode cJ3_checkIndex_8e157 1 = .ok (.ifCond .lt 8, 3) := by decide +kernel
theorem dJ3_checkIndex_8e157_4 : decode cJ3_checkIndex_8e157 4 = .ok (.iload_n 0, 1) := by decide +kernel
theorem dJ3_checkIndex_8e157_5 : decode cJ3_checkIndex_8e157 5 = .ok (.iload_n 1, 1) := by decide +kernel
theorem dJ3_checkIndex_8e157_6 : decode cJ3_checkIndex_8e157 6 = .ok (.if_icmp .lt 10, 3) := by decide +kernel
theorem dJ3_checkIndex_8e157_9 : decode cJ3_checkIndex_8e157 9 = .ok (.aload_n 2, 1) := by decide +kernel
theorem dJ3_checkIndex_8e157_10 : decode cJ3_checkIndex_8e157 10 = .ok (.iload_n 0, 1) := by decide +kernel
theorem dJ3_checkIndex_8e157_11 : decode cJ3_checkIndex_8e157 11 = .ok (.iload_n 1, 1) := by decide +kernel
theorem dJ3_checkIndex_8e157_12 : decode cJ3_checkIndex_8e157 12 = .ok (.invokestatic 95, 3) := by decide +kernel
theorem dJ3_checkIndex_8e157_15 : decode cJ3_checkIndex_8e157 15 = .ok (.athrow, 1) := by decide +kernel
theorem dJ3_checkIndex_8e157_16 : decode cJ3_checkIndex_8e157 16 = .ok (.iload_n 0, 1) := by decide +kernel
theorem dJ3_checkIndex_8e157_17 : decode cJ3_checkIndex_8e157 17 = .ok (.ireturn, 1) := by decide +kernel
