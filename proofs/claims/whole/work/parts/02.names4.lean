theorem dX7_thousandTo_13 : decode cX7_thousandTo 13 = .ok (.lmul, 1) := by decide +kernel
theorem dX7_thousandTo_14 : decode cX7_thousandTo 14 = .ok (.lstore_n 1, 1) := by decide +kernel
theorem dX7_thousandTo_15 : decode cX7_thousandTo 15 = .ok (.iinc 3 1, 3) := by decide +kernel
theorem dX7_thousandTo_18 : decode cX7_thousandTo 18 = .ok (.goto (-14), 3) := by decide +kernel
theorem dX7_thousandTo_21 : decode cX7_thousandTo 21 = .ok (.lload_n 1, 1) := by decide +kernel
theorem dX7_thousandTo_22 : decode cX7_thousandTo 22 = .ok (.lreturn, 1) := by decide +kernel
set_option maxRecDepth 20000 in
theorem ggX7_judge_X7_in : GoodIn wsX7_judge wsX7_in := goodIn_r _ [6] (by decide +kernel) (by decide +kernel)
set_option maxRecDepth 20000 in
theorem gX7_judge_X7_in : GoodIn wsX7_judge (va_wsS RX7 61 yX7_in wsX7_in) := goodIn_app (goodIn_of _ (by decide +kernel)) ggX7_judge_X7_in
set_option maxRecDepth 20000 in
theorem ggX7_judge_X7_thousandTo : GoodIn wsX7_judge wsX7_thousandTo := goodIn_r _ [9, 2] (by decide +kernel) (by decide +kernel)
set_option maxRecDepth 20000 in
theorem gX7_judge_X7_thousandTo : GoodIn wsX7_judge (va_wsS RX7 196 yX7_thousandTo wsX7_thousandTo) := goodIn_app (goodIn_of _ (by decide +kernel)) ggX7_judge_X7_thousandTo
set_option maxRecDepth 20000 in
theorem ggX7_judge_X7_layTrial : GoodIn wsX7_judge wsX7_layTrial := goodIn_r _ [13, 14, 71, 72, 73, 74, 75, 76, 77, 78, 79, 80, 81, 82, 83, 84, 85, 86, 87, 88, 89, 90, 91, 92, 93, 94, 95, 96, 97, 98, 99, 100] (by decide +kernel) (by decide +kernel)
set_option maxRecDepth 20000 in
theorem gX7_judge_X7_layTrial : GoodIn wsX7_judge (wsV RX7 200 RX7 yX7_layTrial wsX7_layTrial) := goodIn_app (goodIn_of _ (by decide +kernel)) ggX7_judge_X7_layTrial
set_option maxRecDepth 20000 in
theorem ggX7_judge_X7_tryThing : GoodIn wsX7_judge wsX7_tryThing := goodIn_r _ [18, 14, 19, 20, 21, 5, 22, 23, 24, 25, 26, 27, 3, 4, 6, 28, 29, 30, 31, 32, 33, 34, 35, 36, 37, 38, 39, 40, 41, 42, 43, 44, 45, 46, 47, 48, 49, 50, 51, 52, 53, 54, 55, 56, 57, 58, 59, 60, 61, 62, 63, 64, 65, 66, 67, 68, 69, 70, 71, 72, 73, 74, 75, 76, 77, 78, 79, 80, 81, 82, 83, 84, 85, 86, 87, 88, 89, 90, 91, 92, 93, 94, 95, 96, 97, 98, 99, 100] (by decide +kernel) (by decide +kernel)
set_option maxRecDepth 20000 in
theorem gX7_judge_X7_tryThing : GoodIn wsX7_judge (wsV RX7 203 RX7 yX7_tryThing wsX7_tryThing) := goodIn_app (goodIn_of _ (by decide +kernel)) ggX7_judge_X7_tryThing
theorem dX7_judge_0 : decode cX7_judge 0 = .ok (.iload_n 1, 1) := by decide +kernel
theorem dX7_judge_1 : decode cX7_judge 1 = .ok (.i2l, 1) := by decide +kernel
theorem dX7_judge_2 : decode cX7_judge 2 = .ok (.lconst 1, 1) := by decide +kernel
theorem dX7_judge_3 : decode cX7_judge 3 = .ok (.ldc2_w 194, 3) := by decide +kernel
theorem dX7_judge_6 : decode cX7_judge 6 = .ok (.invokestatic 61, 3) := by decide +kernel
theorem dX7_judge_9 : decode cX7_judge 9 = .ok (.ifCond .eq 17, 3) := by decide +kernel
theorem dX7_judge_12 : decode cX7_judge 12 = .ok (.lload_n 2, 1) := by decide +kernel
theorem dX7_judge_13 : decode cX7_judge 13 = .ok (.lconst 0, 1) := by decide +kernel
theorem dX7_judge_14 : decode cX7_judge 14 = .ok (.iload_n 1, 1) := by decide +kernel
theorem dX7_judge_15 : decode cX7_judge 15 = .ok (.invokestatic 196, 3) := by decide +kernel
theorem dX7_judge_18 : decode cX7_judge 18 = .ok (.lconst 1, 1) := by decide +kernel
theorem dX7_judge_19 : decode cX7_judge 19 = .ok (.lsub, 1) := by decide +kernel
theorem dX7_judge_20 : decode cX7_judge 20 = .ok (.invokestatic 61, 3) := by decide +kernel
theorem dX7_judge_23 : decode cX7_judge 23 = .ok (.ifCond .ne 6, 3) := by decide +kernel
theorem dX7_judge_26 : decode cX7_judge 26 = .ok (.bipush (-2), 2) := by decide +kernel
theorem dX7_judge_28 : decode cX7_judge 28 = .ok (.ireturn, 1) := by decide +kernel
theorem dX7_judge_29 : decode cX7_judge 29 = .ok (.aload_n 0, 1) := by decide +kernel
theorem dX7_judge_30 : decode cX7_judge 30 = .ok (.invokevirtual 200, 3) := by decide +kernel
theorem dX7_judge_33 : decode cX7_judge 33 = .ok (.iconst 0, 1) := by decide +kernel
theorem dX7_judge_34 : decode cX7_judge 34 = .ok (.istore 4, 2) := by decide +kernel
theorem dX7_judge_36 : decode cX7_judge 36 = .ok (.iload 4, 2) := by decide +kernel
theorem dX7_judge_38 : decode cX7_judge 38 = .ok (.iload_n 1, 1) := by decide +kernel
theorem dX7_judge_39 : decode cX7_judge 39 = .ok (.if_icmp .ge 55, 3) := by decide +kernel
theorem dX7_judge_42 : decode cX7_judge 42 = .ok (.lload_n 2, 1) := by decide +kernel
theorem dX7_judge_43 : decode cX7_judge 43 = .ok (.iload_n 1, 1) := by decide +kernel
theorem dX7_judge_44 : decode cX7_judge 44 = .ok (.iconst 1, 1) := by decide +kernel
theorem dX7_judge_45 : decode cX7_judge 45 = .ok (.isub, 1) := by decide +kernel
theorem dX7_judge_46 : decode cX7_judge 46 = .ok (.iload 4, 2) := by decide +kernel
theorem dX7_judge_48 : decode cX7_judge 48 = .ok (.isub, 1) := by decide +kernel
theorem dX7_judge_49 : decode cX7_judge 49 = .ok (.invokestatic 196, 3) := by decide +kernel
theorem dX7_judge_52 : decode cX7_judge 52 = .ok (.ldiv, 1) := by decide +kernel
theorem dX7_judge_53 : decode cX7_judge 53 = .ok (.ldc2_w 192, 3) := by decide +kernel
theorem dX7_judge_56 : decode cX7_judge 56 = .ok (.lrem, 1) := by decide +kernel
theorem dX7_judge_57 : decode cX7_judge 57 = .ok (.l2i, 1) := by decide +kernel
theorem dX7_judge_58 : decode cX7_judge 58 = .ok (.istore 5, 2) := by decide +kernel
theorem dX7_judge_60 : decode cX7_judge 60 = .ok (.aload_n 0, 1) := by decide +kernel
theorem dX7_judge_61 : decode cX7_judge 61 = .ok (.iload 5, 2) := by decide +kernel
theorem dX7_judge_63 : decode cX7_judge 63 = .ok (.bipush 100, 2) := by decide +kernel
theorem dX7_judge_65 : decode cX7_judge 65 = .ok (.idiv, 1) := by decide +kernel
theorem dX7_judge_66 : decode cX7_judge 66 = .ok (.iload 5, 2) := by decide +kernel
theorem dX7_judge_68 : decode cX7_judge 68 = .ok (.bipush 10, 2) := by decide +kernel
theorem dX7_judge_70 : decode cX7_judge 70 = .ok (.idiv, 1) := by decide +kernel
theorem dX7_judge_71 : decode cX7_judge 71 = .ok (.bipush 10, 2) := by decide +kernel
theorem dX7_judge_73 : decode cX7_judge 73 = .ok (.irem, 1) := by decide +kernel
theorem dX7_judge_74 : decode cX7_judge 74 = .ok (.iload 5, 2) := by decide +kernel
theorem dX7_judge_76 : decode cX7_judge 76 = .ok (.bipush 10, 2) := by decide +kernel
theorem dX7_judge_78 : decode cX7_judge 78 = .ok (.irem, 1) := by decide +kernel
theorem dX7_judge_79 : decode cX7_judge 79 = .ok (.invokevirtual 203, 3) := by decide +kernel
theorem dX7_judge_82 : decode cX7_judge 82 = .ok (.ifCond .ne 6, 3) := by decide +kernel
theorem dX7_judge_85 : decode cX7_judge 85 = .ok (.iload 4, 2) := by decide +kernel
theorem dX7_judge_87 : decode cX7_judge 87 = .ok (.ireturn, 1) := by decide +kernel
theorem dX7_judge_88 : decode cX7_judge 88 = .ok (.iinc 4 1, 3) := by decide +kernel
theorem dX7_judge_91 : decode cX7_judge 91 = .ok (.goto (-55), 3) := by decide +kernel
theorem dX7_judge_94 : decode cX7_judge 94 = .ok (.bipush (-9), 2) := by decide +kernel
theorem dX7_judge_96 : decode cX7_judge 96 = .ok (.ireturn, 1) := by decide +kernel
set_option maxRecDepth 20000 in
theorem ggX7_hear_X7_in : GoodIn wsX7_hear wsX7_in := goodIn_r _ [8] (by decide +kernel) (by decide +kernel)
set_option maxRecDepth 20000 in
theorem gX7_hear_X7_in : GoodIn wsX7_hear (va_wsS RX7 61 yX7_in wsX7_in) := goodIn_app (goodIn_of _ (by decide +kernel)) ggX7_hear_X7_in
theorem dX7_hear_0 : decode cX7_hear 0 = .ok (.iload_n 1, 1) := by decide +kernel
theorem dX7_hear_1 : decode cX7_hear 1 = .ok (.i2l, 1) := by decide +kernel
theorem dX7_hear_2 : decode cX7_hear 2 = .ok (.lconst 0, 1) := by decide +kernel
theorem dX7_hear_3 : decode cX7_hear 3 = .ok (.ldc2_w 207, 3) := by decide +kernel
theorem dX7_hear_6 : decode cX7_hear 6 = .ok (.invokestatic 61, 3) := by decide +kernel
theorem dX7_hear_9 : decode cX7_hear 9 = .ok (.ifCond .eq 13, 3) := by decide +kernel
theorem dX7_hear_12 : decode cX7_hear 12 = .ok (.iload_n 2, 1) := by decide +kernel
theorem dX7_hear_13 : decode cX7_hear 13 = .ok (.i2l, 1) := by decide +kernel
theorem dX7_hear_14 : decode cX7_hear 14 = .ok (.lconst 0, 1) := by decide +kernel
theorem dX7_hear_15 : decode cX7_hear 15 = .ok (.lconst 1, 1) := by decide +kernel
theorem dX7_hear_16 : decode cX7_hear 16 = .ok (.invokestatic 61, 3) := by decide +kernel
theorem dX7_hear_19 : decode cX7_hear 19 = .ok (.ifCond .ne 6, 3) := by decide +kernel
theorem dX7_hear_22 : decode cX7_hear 22 = .ok (.bipush (-2), 2) := by decide +kernel
theorem dX7_hear_24 : decode cX7_hear 24 = .ok (.ireturn, 1) := by decide +kernel
theorem dX7_hear_25 : decode cX7_hear 25 = .ok (.aload_n 0, 1) := by decide +kernel
theorem dX7_hear_26 : decode cX7_hear 26 = .ok (.getfield 209, 3) := by decide +kernel
theorem dX7_hear_29 : decode cX7_hear 29 = .ok (.bipush 6, 2) := by decide +kernel
theorem dX7_hear_31 : decode cX7_hear 31 = .ok (.if_icmp .ne 6, 3) := by decide +kernel
theorem dX7_hear_34 : decode cX7_hear 34 = .ok (.bipush (-4), 2) := by decide +kernel
theorem dX7_hear_36 : decode cX7_hear 36 = .ok (.ireturn, 1) := by decide +kernel
theorem dX7_hear_37 : decode cX7_hear 37 = .ok (.aload_n 0, 1) := by decide +kernel
theorem dX7_hear_38 : decode cX7_hear 38 = .ok (.getfield 43, 3) := by decide +kernel
theorem dX7_hear_41 : decode cX7_hear 41 = .ok (.aload_n 0, 1) := by decide +kernel
theorem dX7_hear_42 : decode cX7_hear 42 = .ok (.getfield 209, 3) := by decide +kernel
theorem dX7_hear_45 : decode cX7_hear 45 = .ok (.iload_n 1, 1) := by decide +kernel
theorem dX7_hear_46 : decode cX7_hear 46 = .ok (.iastore, 1) := by decide +kernel
theorem dX7_hear_47 : decode cX7_hear 47 = .ok (.aload_n 0, 1) := by decide +kernel
theorem dX7_hear_48 : decode cX7_hear 48 = .ok (.getfield 46, 3) := by decide +kernel
theorem dX7_hear_51 : decode cX7_hear 51 = .ok (.aload_n 0, 1) := by decide +kernel
theorem dX7_hear_52 : decode cX7_hear 52 = .ok (.getfield 209, 3) := by decide +kernel
theorem dX7_hear_55 : decode cX7_hear 55 = .ok (.iload_n 2, 1) := by decide +kernel
theorem dX7_hear_56 : decode cX7_hear 56 = .ok (.iastore, 1) := by decide +kernel
theorem dX7_hear_57 : decode cX7_hear 57 = .ok (.aload_n 0, 1) := by decide +kernel
theorem dX7_hear_58 : decode cX7_hear 58 = .ok (.dup, 1) := by decide +kernel
theorem dX7_hear_59 : decode cX7_hear 59 = .ok (.getfield 209, 3) := by decide +kernel
theorem dX7_hear_62 : decode cX7_hear 62 = .ok (.iconst 1, 1) := by decide +kernel
theorem dX7_hear_63 : decode cX7_hear 63 = .ok (.iadd, 1) := by decide +kernel
theorem dX7_hear_64 : decode cX7_hear 64 = .ok (.putfield 209, 3) := by decide +kernel
theorem dX7_hear_67 : decode cX7_hear 67 = .ok (.aload_n 0, 1) := by decide +kernel
theorem dX7_hear_68 : decode cX7_hear 68 = .ok (.getfield 209, 3) := by decide +kernel
theorem dX7_hear_71 : decode cX7_hear 71 = .ok (.ireturn, 1) := by decide +kernel
theorem dX7_unhear_0 : decode cX7_unhear 0 = .ok (.aload_n 0, 1) := by decide +kernel
theorem dX7_unhear_1 : decode cX7_unhear 1 = .ok (.getfield 209, 3) := by decide +kernel
theorem dX7_unhear_4 : decode cX7_unhear 4 = .ok (.istore_n 1, 1) := by decide +kernel
theorem dX7_unhear_5 : decode cX7_unhear 5 = .ok (.aload_n 0, 1) := by decide +kernel
theorem dX7_unhear_6 : decode cX7_unhear 6 = .ok (.iconst 0, 1) := by decide +kernel
theorem dX7_unhear_7 : decode cX7_unhear 7 = .ok (.putfield 209, 3) := by decide +kernel
theorem dX7_unhear_10 : decode cX7_unhear 10 = .ok (.iload_n 1, 1) := by decide +kernel
theorem dX7_unhear_11 : decode cX7_unhear 11 = .ok (.ireturn, 1) := by decide +kernel
set_option maxRecDepth 20000 in
theorem ggX7_farthest_X7_smooth : GoodIn wsX7_farthest wsX7_smooth := goodIn_r _ [7, 1, 2, 23, 24, 25, 26, 27, 28, 29, 30, 31, 32, 33, 34, 35, 36, 37, 38, 39, 40, 41, 42, 43, 44, 45, 46, 47, 48, 49, 50, 51, 52] (by decide +kernel) (by decide +kernel)
set_option maxRecDepth 20000 in
theorem gX7_farthest_X7_smooth : GoodIn wsX7_farthest (wsV RX7 99 RX7 yX7_smooth wsX7_smooth) := goodIn_app (goodIn_of _ (by decide +kernel)) ggX7_farthest_X7_smooth
set_option maxRecDepth 20000 in
theorem ggX7_farthest_X7_costs : GoodIn wsX7_farthest wsX7_costs := goodIn_r _ [11, 12, 2, 13, 14, 15, 6, 16, 17, 18, 19, 23, 24, 25, 26, 27, 28, 29, 30, 31, 32, 33, 34, 35, 36, 37, 38, 39, 40, 41, 42, 43, 44, 45, 46, 47, 48, 49, 50, 51, 52] (by decide +kernel) (by decide +kernel)
set_option maxRecDepth 20000 in
theorem gX7_farthest_X7_costs : GoodIn wsX7_farthest (wsV RX7 115 RX7 yX7_costs wsX7_costs) := goodIn_app (goodIn_of _ (by decide +kernel)) ggX7_farthest_X7_costs
set_option maxRecDepth 20000 in
theorem ggX7_farthest_X7_pays : GoodIn wsX7_farthest wsX7_pays := goodIn_r _ [22] (by decide +kernel) (by decide +kernel)
set_option maxRecDepth 20000 in
theorem gX7_farthest_X7_pays : GoodIn wsX7_farthest (va_wsS RX7 119 yX7_pays wsX7_pays) := goodIn_app (goodIn_of _ (by decide +kernel)) ggX7_farthest_X7_pays
theorem dX7_farthest_0 : decode cX7_farthest 0 = .ok (.iload_n 2, 1) := by decide +kernel
theorem dX7_farthest_1 : decode cX7_farthest 1 = .ok (.istore_n 3, 1) := by decide +kernel
theorem dX7_farthest_2 : decode cX7_farthest 2 = .ok (.iconst 0, 1) := by decide +kernel
theorem dX7_farthest_3 : decode cX7_farthest 3 = .ok (.istore 4, 2) := by decide +kernel
theorem dX7_farthest_5 : decode cX7_farthest 5 = .ok (.iload 4, 2) := by decide +kernel
theorem dX7_farthest_7 : decode cX7_farthest 7 = .ok (.aload_n 0, 1) := by decide +kernel
theorem dX7_farthest_8 : decode cX7_farthest 8 = .ok (.getfield 93, 3) := by decide +kernel
theorem dX7_farthest_11 : decode cX7_farthest 11 = .ok (.if_icmp .ge 56, 3) := by decide +kernel
theorem dX7_farthest_14 : decode cX7_farthest 14 = .ok (.iload_n 1, 1) := by decide +kernel
theorem dX7_farthest_15 : decode cX7_farthest 15 = .ok (.aload_n 0, 1) := by decide +kernel
theorem dX7_farthest_16 : decode cX7_farthest 16 = .ok (.iload 4, 2) := by decide +kernel
theorem dX7_farthest_18 : decode cX7_farthest 18 = .ok (.iconst 0, 1) := by decide +kernel
theorem dX7_farthest_19 : decode cX7_farthest 19 = .ok (.aload_n 0, 1) := by decide +kernel
theorem dX7_farthest_20 : decode cX7_farthest 20 = .ok (.invokevirtual 99, 3) := by decide +kernel
theorem dX7_farthest_23 : decode cX7_farthest 23 = .ok (.iconst 0, 1) := by decide +kernel
theorem dX7_farthest_24 : decode cX7_farthest 24 = .ok (.invokevirtual 115, 3) := by decide +kernel
theorem dX7_farthest_27 : decode cX7_farthest 27 = .ok (.invokestatic 119, 3) := by decide +kernel
theorem dX7_farthest_30 : decode cX7_farthest 30 = .ok (.istore 5, 2) := by decide +kernel
theorem dX7_farthest_32 : decode cX7_farthest 32 = .ok (.iload 5, 2) := by decide +kernel
theorem dX7_farthest_34 : decode cX7_farthest 34 = .ok (.iload_n 3, 1) := by decide +kernel
theorem dX7_farthest_35 : decode cX7_farthest 35 = .ok (.if_icmp .le 6, 3) := by decide +kernel
theorem dX7_farthest_38 : decode cX7_farthest 38 = .ok (.iload 4, 2) := by decide +kernel
theorem dX7_farthest_40 : decode cX7_farthest 40 = .ok (.ireturn, 1) := by decide +kernel
theorem dX7_farthest_41 : decode cX7_farthest 41 = .ok (.aload_n 0, 1) := by decide +kernel
theorem dX7_farthest_42 : decode cX7_farthest 42 = .ok (.getfield 13, 3) := by decide +kernel
theorem dX7_farthest_45 : decode cX7_farthest 45 = .ok (.iload 4, 2) := by decide +kernel
theorem dX7_farthest_47 : decode cX7_farthest 47 = .ok (.iaload, 1) := by decide +kernel
theorem dX7_farthest_48 : decode cX7_farthest 48 = .ok (.iconst 3, 1) := by decide +kernel
theorem dX7_farthest_49 : decode cX7_farthest 49 = .ok (.if_icmp .ne 7, 3) := by decide +kernel
theorem dX7_farthest_52 : decode cX7_farthest 52 = .ok (.iload_n 2, 1) := by decide +kernel
theorem dX7_farthest_53 : decode cX7_farthest 53 = .ok (.goto 7, 3) := by decide +kernel
theorem dX7_farthest_56 : decode cX7_farthest 56 = .ok (.iload_n 3, 1) := by decide +kernel
theorem dX7_farthest_57 : decode cX7_farthest 57 = .ok (.iload 5, 2) := by decide +kernel
theorem dX7_farthest_59 : decode cX7_farthest 59 = .ok (.isub, 1) := by decide +kernel
theorem dX7_farthest_60 : decode cX7_farthest 60 = .ok (.istore_n 3, 1) := by decide +kernel
theorem dX7_farthest_61 : decode cX7_farthest 61 = .ok (.iinc 4 1, 3) := by decide +kernel
theorem dX7_farthest_64 : decode cX7_farthest 64 = .ok (.goto (-59), 3) := by decide +kernel
theorem dX7_farthest_67 : decode cX7_farthest 67 = .ok (.aload_n 0, 1) := by decide +kernel
theorem dX7_farthest_68 : decode cX7_farthest 68 = .ok (.getfield 93, 3) := by decide +kernel
theorem dX7_farthest_71 : decode cX7_farthest 71 = .ok (.ireturn, 1) := by decide +kernel
set_option maxRecDepth 20000 in
theorem ggX7_who_X7_in : GoodIn wsX7_who wsX7_in := goodIn_r _ [7] (by decide +kernel) (by decide +kernel)
set_option maxRecDepth 20000 in
theorem gX7_who_X7_in : GoodIn wsX7_who (va_wsS RX7 61 yX7_in wsX7_in) := goodIn_app (goodIn_of _ (by decide +kernel)) ggX7_who_X7_in
set_option maxRecDepth 20000 in
theorem ggX7_who_X7_farthest : GoodIn wsX7_who wsX7_farthest := goodIn_r _ [11, 12, 13, 14, 15, 16, 6, 17, 18, 19, 20, 21, 22, 23, 24, 25, 26, 27, 28, 29, 30, 31, 32, 33, 34, 35, 36, 37, 38, 39, 40, 41, 42, 43, 44, 45, 46, 47, 48, 49, 50, 51, 52, 53, 54, 55, 56, 57, 58, 59, 60, 61, 62] (by decide +kernel) (by decide +kernel)
set_option maxRecDepth 20000 in
theorem gX7_who_X7_farthest : GoodIn wsX7_who (wsV RX7 212 RX7 yX7_farthest wsX7_farthest) := goodIn_app (goodIn_of _ (by decide +kernel)) ggX7_who_X7_farthest
theorem dX7_who_0 : decode cX7_who 0 = .ok (.iload_n 1, 1) := by decide +kernel
theorem dX7_who_1 : decode cX7_who 1 = .ok (.i2l, 1) := by decide +kernel
theorem dX7_who_2 : decode cX7_who 2 = .ok (.lconst 0, 1) := by decide +kernel
theorem dX7_who_3 : decode cX7_who 3 = .ok (.lconst 1, 1) := by decide +kernel
theorem dX7_who_4 : decode cX7_who 4 = .ok (.invokestatic 61, 3) := by decide +kernel
theorem dX7_who_7 : decode cX7_who 7 = .ok (.ifCond .ne 6, 3) := by decide +kernel
theorem dX7_who_10 : decode cX7_who 10 = .ok (.bipush (-2), 2) := by decide +kernel
theorem dX7_who_12 : decode cX7_who 12 = .ok (.ireturn, 1) := by decide +kernel
theorem dX7_who_13 : decode cX7_who 13 = .ok (.iconst 0, 1) := by decide +kernel
theorem dX7_who_14 : decode cX7_who 14 = .ok (.istore_n 2, 1) := by decide +kernel
theorem dX7_who_15 : decode cX7_who 15 = .ok (.bipush (-9), 2) := by decide +kernel
theorem dX7_who_17 : decode cX7_who 17 = .ok (.istore_n 3, 1) := by decide +kernel
theorem dX7_who_18 : decode cX7_who 18 = .ok (.iconst 0, 1) := by decide +kernel
theorem dX7_who_19 : decode cX7_who 19 = .ok (.istore 4, 2) := by decide +kernel
theorem dX7_who_21 : decode cX7_who 21 = .ok (.iload 4, 2) := by decide +kernel
theorem dX7_who_23 : decode cX7_who 23 = .ok (.bipush 36, 2) := by decide +kernel
theorem dX7_who_25 : decode cX7_who 25 = .ok (.if_icmp .ge 139, 3) := by decide +kernel
theorem dX7_who_28 : decode cX7_who 28 = .ok (.aload_n 0, 1) := by decide +kernel
theorem dX7_who_29 : decode cX7_who 29 = .ok (.iload 4, 2) := by decide +kernel
theorem dX7_who_31 : decode cX7_who 31 = .ok (.bipush 9, 2) := by decide +kernel
theorem dX7_who_33 : decode cX7_who 33 = .ok (.idiv, 1) := by decide +kernel
theorem dX7_who_34 : decode cX7_who 34 = .ok (.iconst 1, 1) := by decide +kernel
theorem dX7_who_35 : decode cX7_who 35 = .ok (.iload 4, 2) := by decide +kernel
theorem dX7_who_37 : decode cX7_who 37 = .ok (.bipush 9, 2) := by decide +kernel
theorem dX7_who_39 : decode cX7_who 39 = .ok (.irem, 1) := by decide +kernel
theorem dX7_who_40 : decode cX7_who 40 = .ok (.iadd, 1) := by decide +kernel
theorem dX7_who_41 : decode cX7_who 41 = .ok (.invokevirtual 212, 3) := by decide +kernel
theorem dX7_who_44 : decode cX7_who 44 = .ok (.istore 5, 2) := by decide +kernel
theorem dX7_who_46 : decode cX7_who 46 = .ok (.iconst 1, 1) := by decide +kernel
theorem dX7_who_47 : decode cX7_who 47 = .ok (.istore 6, 2) := by decide +kernel
theorem dX7_who_49 : decode cX7_who 49 = .ok (.iconst 0, 1) := by decide +kernel
theorem dX7_who_50 : decode cX7_who 50 = .ok (.istore 7, 2) := by decide +kernel
theorem dX7_who_52 : decode cX7_who 52 = .ok (.iload 7, 2) := by decide +kernel
theorem dX7_who_54 : decode cX7_who 54 = .ok (.aload_n 0, 1) := by decide +kernel
theorem dX7_who_55 : decode cX7_who 55 = .ok (.getfield 209, 3) := by decide +kernel
theorem dX7_who_58 : decode cX7_who 58 = .ok (.if_icmp .ge 57, 3) := by decide +kernel
theorem dX7_who_61 : decode cX7_who 61 = .ok (.iload 6, 2) := by decide +kernel
theorem dX7_who_63 : decode cX7_who 63 = .ok (.ifCond .eq 43, 3) := by decide +kernel
theorem dX7_who_66 : decode cX7_who 66 = .ok (.iload 5, 2) := by decide +kernel
theorem dX7_who_68 : decode cX7_who 68 = .ok (.aload_n 0, 1) := by decide +kernel
theorem dX7_who_69 : decode cX7_who 69 = .ok (.getfield 43, 3) := by decide +kernel
theorem dX7_who_72 : decode cX7_who 72 = .ok (.iload 7, 2) := by decide +kernel
theorem dX7_who_74 : decode cX7_who 74 = .ok (.iaload, 1) := by decide +kernel
theorem dX7_who_75 : decode cX7_who 75 = .ok (.if_icmp .lt 7, 3) := by decide +kernel
theorem dX7_who_78 : decode cX7_who 78 = .ok (.iconst 1, 1) := by decide +kernel
theorem dX7_who_79 : decode cX7_who 79 = .ok (.goto 4, 3) := by decide +kernel
theorem dX7_who_82 : decode cX7_who 82 = .ok (.iconst 0, 1) := by decide +kernel
theorem dX7_who_83 : decode cX7_who 83 = .ok (.aload_n 0, 1) := by decide +kernel
theorem dX7_who_84 : decode cX7_who 84 = .ok (.getfield 46, 3) := by decide +kernel
theorem dX7_who_87 : decode cX7_who 87 = .ok (.iload 7, 2) := by decide +kernel
theorem dX7_who_89 : decode cX7_who 89 = .ok (.iaload, 1) := by decide +kernel
theorem dX7_who_90 : decode cX7_who 90 = .ok (.iconst 1, 1) := by decide +kernel
theorem dX7_who_91 : decode cX7_who 91 = .ok (.if_icmp .ne 7, 3) := by decide +kernel
theorem dX7_who_94 : decode cX7_who 94 = .ok (.iconst 1, 1) := by decide +kernel
theorem dX7_who_95 : decode cX7_who 95 = .ok (.goto 4, 3) := by decide +kernel
theorem dX7_who_98 : decode cX7_who 98 = .ok (.iconst 0, 1) := by decide +kernel
theorem dX7_who_99 : decode cX7_who 99 = .ok (.if_icmp .ne 7, 3) := by decide +kernel
theorem dX7_who_102 : decode cX7_who 102 = .ok (.iconst 1, 1) := by decide +kernel
theorem dX7_who_103 : decode cX7_who 103 = .ok (.goto 4, 3) := by decide +kernel
theorem dX7_who_106 : decode cX7_who 106 = .ok (.iconst 0, 1) := by decide +kernel
theorem dX7_who_107 : decode cX7_who 107 = .ok (.istore 6, 2) := by decide +kernel
theorem dX7_who_109 : decode cX7_who 109 = .ok (.iinc 7 1, 3) := by decide +kernel
theorem dX7_who_112 : decode cX7_who 112 = .ok (.goto (-60), 3) := by decide +kernel
theorem dX7_who_115 : decode cX7_who 115 = .ok (.iload 6, 2) := by decide +kernel
theorem dX7_who_117 : decode cX7_who 117 = .ok (.ifCond .eq 26, 3) := by decide +kernel
theorem dX7_who_120 : decode cX7_who 120 = .ok (.iload_n 2, 1) := by decide +kernel
theorem dX7_who_121 : decode cX7_who 121 = .ok (.ifCond .ne 22, 3) := by decide +kernel
theorem dX7_who_124 : decode cX7_who 124 = .ok (.bipush 10, 2) := by decide +kernel
theorem dX7_who_126 : decode cX7_who 126 = .ok (.iload 4, 2) := by decide +kernel
theorem dX7_who_128 : decode cX7_who 128 = .ok (.bipush 9, 2) := by decide +kernel
theorem dX7_who_130 : decode cX7_who 130 = .ok (.idiv, 1) := by decide +kernel
theorem dX7_who_131 : decode cX7_who 131 = .ok (.imul, 1) := by decide +kernel
theorem dX7_who_132 : decode cX7_who 132 = .ok (.iconst 1, 1) := by decide +kernel
theorem dX7_who_133 : decode cX7_who 133 = .ok (.iadd, 1) := by decide +kernel
theorem dX7_who_134 : decode cX7_who 134 = .ok (.iload 4, 2) := by decide +kernel
theorem dX7_who_136 : decode cX7_who 136 = .ok (.bipush 9, 2) := by decide +kernel
theorem dX7_who_138 : decode cX7_who 138 = .ok (.irem, 1) := by decide +kernel
theorem dX7_who_139 : decode cX7_who 139 = .ok (.iadd, 1) := by decide +kernel
theorem dX7_who_140 : decode cX7_who 140 = .ok (.goto 4, 3) := by decide +kernel
theorem dX7_who_143 : decode cX7_who 143 = .ok (.iload_n 3, 1) := by decide +kernel
theorem dX7_who_144 : decode cX7_who 144 = .ok (.istore_n 3, 1) := by decide +kernel
theorem dX7_who_145 : decode cX7_who 145 = .ok (.iload_n 2, 1) := by decide +kernel
theorem dX7_who_146 : decode cX7_who 146 = .ok (.iload 6, 2) := by decide +kernel
theorem dX7_who_148 : decode cX7_who 148 = .ok (.ifCond .eq 7, 3) := by decide +kernel
theorem dX7_who_151 : decode cX7_who 151 = .ok (.iconst 1, 1) := by decide +kernel
theorem dX7_who_152 : decode cX7_who 152 = .ok (.goto 4, 3) := by decide +kernel
theorem dX7_who_155 : decode cX7_who 155 = .ok (.iconst 0, 1) := by decide +kernel
theorem dX7_who_156 : decode cX7_who 156 = .ok (.iadd, 1) := by decide +kernel
theorem dX7_who_157 : decode cX7_who 157 = .ok (.istore_n 2, 1) := by decide +kernel
theorem dX7_who_158 : decode cX7_who 158 = .ok (.iinc 4 1, 3) := by decide +kernel
theorem dX7_who_161 : decode cX7_who 161 = .ok (.goto (-140), 3) := by decide +kernel
theorem dX7_who_164 : decode cX7_who 164 = .ok (.iload_n 1, 1) := by decide +kernel
theorem dX7_who_165 : decode cX7_who 165 = .ok (.ifCond .ne 7, 3) := by decide +kernel
theorem dX7_who_168 : decode cX7_who 168 = .ok (.iload_n 2, 1) := by decide +kernel
theorem dX7_who_169 : decode cX7_who 169 = .ok (.goto 4, 3) := by decide +kernel
theorem dX7_who_172 : decode cX7_who 172 = .ok (.iload_n 3, 1) := by decide +kernel
theorem dX7_who_173 : decode cX7_who 173 = .ok (.ireturn, 1) := by decide +kernel
theorem dX7_factorial_0 : decode cX7_factorial 0 = .ok (.iconst 1, 1) := by decide +kernel
theorem dX7_factorial_1 : decode cX7_factorial 1 = .ok (.istore_n 1, 1) := by decide +kernel
theorem dX7_factorial_2 : decode cX7_factorial 2 = .ok (.iconst 2, 1) := by decide +kernel
theorem dX7_factorial_3 : decode cX7_factorial 3 = .ok (.istore_n 2, 1) := by decide +kernel
theorem dX7_factorial_4 : decode cX7_factorial 4 = .ok (.iload_n 2, 1) := by decide +kernel
theorem dX7_factorial_5 : decode cX7_factorial 5 = .ok (.iload_n 0, 1) := by decide +kernel
theorem dX7_factorial_6 : decode cX7_factorial 6 = .ok (.if_icmp .gt 13, 3) := by decide +kernel
theorem dX7_factorial_9 : decode cX7_factorial 9 = .ok (.iload_n 1, 1) := by decide +kernel
theorem dX7_factorial_10 : decode cX7_factorial 10 = .ok (.iload_n 2, 1) := by decide +kernel
theorem dX7_factorial_11 : decode cX7_factorial 11 = .ok (.imul, 1) := by decide +kernel
theorem dX7_factorial_12 : decode cX7_factorial 12 = .ok (.istore_n 1, 1) := by decide +kernel
theorem dX7_factorial_13 : decode cX7_factorial 13 = .ok (.iinc 2 1, 3) := by decide +kernel
theorem dX7_factorial_16 : decode cX7_factorial 16 = .ok (.goto (-12), 3) := by decide +kernel
theorem dX7_factorial_19 : decode cX7_factorial 19 = .ok (.iload_n 1, 1) := by decide +kernel
theorem dX7_factorial_20 : decode cX7_factorial 20 = .ok (.ireturn, 1) := by decide +kernel
theorem dX7_common_0 : decode cX7_common 0 = .ok (.iload_n 0, 1) := by decide +kernel
theorem dX7_common_1 : decode cX7_common 1 = .ok (.ifCond .ge 8, 3) := by decide +kernel
theorem dX7_common_4 : decode cX7_common 4 = .ok (.iload_n 0, 1) := by decide +kernel
theorem dX7_common_5 : decode cX7_common 5 = .ok (.ineg, 1) := by decide +kernel
theorem dX7_common_6 : decode cX7_common 6 = .ok (.goto 4, 3) := by decide +kernel
theorem dX7_common_9 : decode cX7_common 9 = .ok (.iload_n 0, 1) := by decide +kernel
theorem dX7_common_10 : decode cX7_common 10 = .ok (.istore_n 2, 1) := by decide +kernel
theorem dX7_common_11 : decode cX7_common 11 = .ok (.iload_n 1, 1) := by decide +kernel
theorem dX7_common_12 : decode cX7_common 12 = .ok (.istore_n 3, 1) := by decide +kernel
theorem dX7_common_13 : decode cX7_common 13 = .ok (.iload_n 3, 1) := by decide +kernel
theorem dX7_common_14 : decode cX7_common 14 = .ok (.ifCond .eq 16, 3) := by decide +kernel
theorem dX7_common_17 : decode cX7_common 17 = .ok (.iload_n 2, 1) := by decide +kernel
theorem dX7_common_18 : decode cX7_common 18 = .ok (.iload_n 3, 1) := by decide +kernel
theorem dX7_common_19 : decode cX7_common 19 = .ok (.irem, 1) := by decide +kernel
theorem dX7_common_20 : decode cX7_common 20 = .ok (.istore 4, 2) := by decide +kernel
theorem dX7_common_22 : decode cX7_common 22 = .ok (.iload_n 3, 1) := by decide +kernel
theorem dX7_common_23 : decode cX7_common 23 = .ok (.istore_n 2, 1) := by decide +kernel
theorem dX7_common_24 : decode cX7_common 24 = .ok (.iload 4, 2) := by decide +kernel
theorem dX7_common_26 : decode cX7_common 26 = .ok (.istore_n 3, 1) := by decide +kernel
theorem dX7_common_27 : decode cX7_common 27 = .ok (.goto (-14), 3) := by decide +kernel
theorem dX7_common_30 : decode cX7_common 30 = .ok (.iload_n 2, 1) := by decide +kernel
theorem dX7_common_31 : decode cX7_common 31 = .ok (.ireturn, 1) := by decide +kernel
set_option maxRecDepth 20000 in
theorem ggX7_comeTo_X7_has : GoodIn wsX7_comeTo wsX7_has := goodIn_r _ [6] (by decide +kernel) (by decide +kernel)
set_option maxRecDepth 20000 in
theorem gX7_comeTo_X7_has : GoodIn wsX7_comeTo (va_wsS RX7 108 yX7_has wsX7_has) := goodIn_app (goodIn_of _ (by decide +kernel)) ggX7_comeTo_X7_has
set_option maxRecDepth 20000 in
theorem ggX7_comeTo_X7_ones : GoodIn wsX7_comeTo wsX7_ones := goodIn_r _ [9] (by decide +kernel) (by decide +kernel)
set_option maxRecDepth 20000 in
theorem gX7_comeTo_X7_ones : GoodIn wsX7_comeTo (va_wsS RX7 189 yX7_ones wsX7_ones) := goodIn_app (goodIn_of _ (by decide +kernel)) ggX7_comeTo_X7_ones
theorem dX7_comeTo_0 : decode cX7_comeTo 0 = .ok (.iconst 0, 1) := by decide +kernel
theorem dX7_comeTo_1 : decode cX7_comeTo 1 = .ok (.istore_n 2, 1) := by decide +kernel
theorem dX7_comeTo_2 : decode cX7_comeTo 2 = .ok (.iconst 0, 1) := by decide +kernel
theorem dX7_comeTo_3 : decode cX7_comeTo 3 = .ok (.istore_n 3, 1) := by decide +kernel
theorem dX7_comeTo_4 : decode cX7_comeTo 4 = .ok (.iload_n 3, 1) := by decide +kernel
theorem dX7_comeTo_5 : decode cX7_comeTo 5 = .ok (.aload_n 0, 1) := by decide +kernel
theorem dX7_comeTo_6 : decode cX7_comeTo 6 = .ok (.getfield 96, 3) := by decide +kernel
theorem dX7_comeTo_9 : decode cX7_comeTo 9 = .ok (.if_icmp .ge 30, 3) := by decide +kernel
theorem dX7_comeTo_12 : decode cX7_comeTo 12 = .ok (.iload_n 2, 1) := by decide +kernel
theorem dX7_comeTo_13 : decode cX7_comeTo 13 = .ok (.iload_n 1, 1) := by decide +kernel
theorem dX7_comeTo_14 : decode cX7_comeTo 14 = .ok (.iload_n 3, 1) := by decide +kernel
theorem dX7_comeTo_15 : decode cX7_comeTo 15 = .ok (.invokestatic 108, 3) := by decide +kernel
theorem dX7_comeTo_18 : decode cX7_comeTo 18 = .ok (.ifCond .eq 12, 3) := by decide +kernel
theorem dX7_comeTo_21 : decode cX7_comeTo 21 = .ok (.aload_n 0, 1) := by decide +kernel
theorem dX7_comeTo_22 : decode cX7_comeTo 22 = .ok (.getfield 49, 3) := by decide +kernel
theorem dX7_comeTo_25 : decode cX7_comeTo 25 = .ok (.iload_n 3, 1) := by decide +kernel
theorem dX7_comeTo_26 : decode cX7_comeTo 26 = .ok (.iaload, 1) := by decide +kernel
theorem dX7_comeTo_27 : decode cX7_comeTo 27 = .ok (.goto 4, 3) := by decide +kernel
theorem dX7_comeTo_30 : decode cX7_comeTo 30 = .ok (.iconst 0, 1) := by decide +kernel
theorem dX7_comeTo_31 : decode cX7_comeTo 31 = .ok (.ior, 1) := by decide +kernel
theorem dX7_comeTo_32 : decode cX7_comeTo 32 = .ok (.istore_n 2, 1) := by decide +kernel
theorem dX7_comeTo_33 : decode cX7_comeTo 33 = .ok (.iinc 3 1, 3) := by decide +kernel
theorem dX7_comeTo_36 : decode cX7_comeTo 36 = .ok (.goto (-32), 3) := by decide +kernel
theorem dX7_comeTo_39 : decode cX7_comeTo 39 = .ok (.iload_n 2, 1) := by decide +kernel
theorem dX7_comeTo_40 : decode cX7_comeTo 40 = .ok (.invokestatic 189, 3) := by decide +kernel
theorem dX7_comeTo_43 : decode cX7_comeTo 43 = .ok (.ireturn, 1) := by decide +kernel
set_option maxRecDepth 20000 in
theorem ggX7_share_X7_isTraveller : GoodIn wsX7_share wsX7_isTraveller := goodIn_r _ [7, 1, 8, 9, 6, 10, 80, 81, 82, 83, 84, 85, 86, 87, 88, 89, 90, 91, 92, 93, 94, 95, 96, 97, 98, 99, 100, 101, 102, 103, 104, 105, 106, 107, 108, 109] (by decide +kernel) (by decide +kernel)
set_option maxRecDepth 20000 in
theorem gX7_share_X7_isTraveller : GoodIn wsX7_share (wsV RX7 126 RX7 yX7_isTraveller wsX7_isTraveller) := goodIn_app (goodIn_of _ (by decide +kernel)) ggX7_share_X7_isTraveller
set_option maxRecDepth 20000 in
theorem ggX7_share_X7_reachNow : GoodIn wsX7_share wsX7_reachNow := goodIn_r _ [14, 15, 16, 17, 18, 6, 19, 20, 21, 22, 23, 24, 25, 26, 27, 28, 29, 30, 31, 32, 33, 34, 35, 36, 37, 38, 39, 40, 41, 42, 43, 44, 45, 46, 47, 8, 9, 10, 48, 49, 50, 51, 52, 53, 54, 55, 56, 57, 58, 59, 60, 61, 62, 63, 64, 65, 66, 80, 81, 82, 83, 84, 85, 86, 87, 88, 89, 90, 91, 92, 93, 94, 95, 96, 97, 98, 99, 100, 101, 102, 103, 104, 105, 106, 107, 108, 109] (by decide +kernel) (by decide +kernel)
set_option maxRecDepth 20000 in
theorem gX7_share_X7_reachNow : GoodIn wsX7_share (wsV RX7 182 RX7 yX7_reachNow wsX7_reachNow) := goodIn_app (goodIn_of _ (by decide +kernel)) ggX7_share_X7_reachNow
set_option maxRecDepth 20000 in
theorem ggX7_share_X7_has : GoodIn wsX7_share wsX7_has := goodIn_r _ [56] (by decide +kernel) (by decide +kernel)
set_option maxRecDepth 20000 in
theorem gX7_share_X7_has : GoodIn wsX7_share (va_wsS RX7 108 yX7_has wsX7_has) := goodIn_app (goodIn_of _ (by decide +kernel)) ggX7_share_X7_has
set_option maxRecDepth 20000 in
theorem ggX7_share_X7_ones : GoodIn wsX7_share wsX7_ones := goodIn_r _ [69] (by decide +kernel) (by decide +kernel)
set_option maxRecDepth 20000 in
theorem gX7_share_X7_ones : GoodIn wsX7_share (va_wsS RX7 189 yX7_ones wsX7_ones) := goodIn_app (goodIn_of _ (by decide +kernel)) ggX7_share_X7_ones
set_option maxRecDepth 20000 in
theorem ggX7_share_X7_factorial : GoodIn wsX7_share wsX7_factorial := goodIn_r _ [72] (by decide +kernel) (by decide +kernel)
set_option maxRecDepth 20000 in
theorem gX7_share_X7_factorial : GoodIn wsX7_share (va_wsS RX7 215 yX7_factorial wsX7_factorial) := goodIn_app (goodIn_of _ (by decide +kernel)) ggX7_share_X7_factorial
set_option maxRecDepth 20000 in
theorem ggX7_share_X7_comeTo : GoodIn wsX7_share wsX7_comeTo := goodIn_r _ [76, 1, 2, 54, 55, 6, 56, 67, 68, 69, 80, 81, 82, 83, 84, 85, 86, 87, 88, 89, 90, 91, 92, 93, 94, 95, 96, 97, 98, 99, 100, 101, 102, 103, 104, 105, 106, 107, 108, 109] (by decide +kernel) (by decide +kernel)
set_option maxRecDepth 20000 in
theorem gX7_share_X7_comeTo : GoodIn wsX7_share (wsV RX7 218 RX7 yX7_comeTo wsX7_comeTo) := goodIn_app (goodIn_of _ (by decide +kernel)) ggX7_share_X7_comeTo
set_option maxRecDepth 20000 in
theorem ggX7_share_X7_common : GoodIn wsX7_share wsX7_common := goodIn_r _ [79] (by decide +kernel) (by decide +kernel)
set_option maxRecDepth 20000 in
theorem gX7_share_X7_common : GoodIn wsX7_share (va_wsS RX7 221 yX7_common wsX7_common) := goodIn_app (goodIn_of _ (by decide +kernel)) ggX7_share_X7_common
theorem dX7_share_0 : decode cX7_share 0 = .ok (.aload_n 0, 1) := by decide +kernel
theorem dX7_share_1 : decode cX7_share 1 = .ok (.iload_n 1, 1) := by decide +kernel
theorem dX7_share_2 : decode cX7_share 2 = .ok (.invokevirtual 126, 3) := by decide +kernel
theorem dX7_share_5 : decode cX7_share 5 = .ok (.ifCond .ne 5, 3) := by decide +kernel
theorem dX7_share_8 : decode cX7_share 8 = .ok (.iconst (-1), 1) := by decide +kernel
theorem dX7_share_9 : decode cX7_share 9 = .ok (.ireturn, 1) := by decide +kernel
theorem dX7_share_10 : decode cX7_share 10 = .ok (.iconst 0, 1) := by decide +kernel
theorem dX7_share_11 : decode cX7_share 11 = .ok (.istore_n 3, 1) := by decide +kernel
theorem dX7_share_12 : decode cX7_share 12 = .ok (.iload_n 3, 1) := by decide +kernel
theorem dX7_share_13 : decode cX7_share 13 = .ok (.aload_n 0, 1) := by decide +kernel
theorem dX7_share_14 : decode cX7_share 14 = .ok (.getfield 96, 3) := by decide +kernel
theorem dX7_share_17 : decode cX7_share 17 = .ok (.if_icmp .ge 20, 3) := by decide +kernel
theorem dX7_share_20 : decode cX7_share 20 = .ok (.aload_n 0, 1) := by decide +kernel
theorem dX7_share_21 : decode cX7_share 21 = .ok (.getfield 49, 3) := by decide +kernel
theorem dX7_share_24 : decode cX7_share 24 = .ok (.iload_n 3, 1) := by decide +kernel
theorem dX7_share_25 : decode cX7_share 25 = .ok (.aload_n 0, 1) := by decide +kernel
theorem dX7_share_26 : decode cX7_share 26 = .ok (.iload_n 3, 1) := by decide +kernel
theorem dX7_share_27 : decode cX7_share 27 = .ok (.invokevirtual 182, 3) := by decide +kernel
theorem dX7_share_30 : decode cX7_share 30 = .ok (.iastore, 1) := by decide +kernel
theorem dX7_share_31 : decode cX7_share 31 = .ok (.iinc 3 1, 3) := by decide +kernel
theorem dX7_share_34 : decode cX7_share 34 = .ok (.goto (-22), 3) := by decide +kernel
theorem dX7_share_37 : decode cX7_share 37 = .ok (.iconst 0, 1) := by decide +kernel
theorem dX7_share_38 : decode cX7_share 38 = .ok (.istore_n 3, 1) := by decide +kernel
theorem dX7_share_39 : decode cX7_share 39 = .ok (.iconst 0, 1) := by decide +kernel
theorem dX7_share_40 : decode cX7_share 40 = .ok (.istore 4, 2) := by decide +kernel
theorem dX7_share_42 : decode cX7_share 42 = .ok (.iload 4, 2) := by decide +kernel
theorem dX7_share_44 : decode cX7_share 44 = .ok (.iconst 1, 1) := by decide +kernel
theorem dX7_share_45 : decode cX7_share 45 = .ok (.aload_n 0, 1) := by decide +kernel
theorem dX7_share_46 : decode cX7_share 46 = .ok (.getfield 96, 3) := by decide +kernel
theorem dX7_share_49 : decode cX7_share 49 = .ok (.ishl, 1) := by decide +kernel
theorem dX7_share_50 : decode cX7_share 50 = .ok (.if_icmp .ge 67, 3) := by decide +kernel
theorem dX7_share_53 : decode cX7_share 53 = .ok (.iload 4, 2) := by decide +kernel
theorem dX7_share_55 : decode cX7_share 55 = .ok (.iload_n 1, 1) := by decide +kernel
theorem dX7_share_56 : decode cX7_share 56 = .ok (.invokestatic 108, 3) := by decide +kernel
theorem dX7_share_59 : decode cX7_share 59 = .ok (.ifCond .ne 52, 3) := by decide +kernel
theorem dX7_share_62 : decode cX7_share 62 = .ok (.iload 4, 2) := by decide +kernel
theorem dX7_share_64 : decode cX7_share 64 = .ok (.invokestatic 189, 3) := by decide +kernel
theorem dX7_share_67 : decode cX7_share 67 = .ok (.invokestatic 215, 3) := by decide +kernel
theorem dX7_share_70 : decode cX7_share 70 = .ok (.aload_n 0, 1) := by decide +kernel
theorem dX7_share_71 : decode cX7_share 71 = .ok (.getfield 96, 3) := by decide +kernel
theorem dX7_share_74 : decode cX7_share 74 = .ok (.iconst 1, 1) := by decide +kernel
theorem dX7_share_75 : decode cX7_share 75 = .ok (.isub, 1) := by decide +kernel
theorem dX7_share_76 : decode cX7_share 76 = .ok (.iload 4, 2) := by decide +kernel
theorem dX7_share_78 : decode cX7_share 78 = .ok (.invokestatic 189, 3) := by decide +kernel
theorem dX7_share_81 : decode cX7_share 81 = .ok (.isub, 1) := by decide +kernel
theorem dX7_share_82 : decode cX7_share 82 = .ok (.invokestatic 215, 3) := by decide +kernel
theorem dX7_share_85 : decode cX7_share 85 = .ok (.imul, 1) := by decide +kernel
theorem dX7_share_86 : decode cX7_share 86 = .ok (.istore 5, 2) := by decide +kernel
theorem dX7_share_88 : decode cX7_share 88 = .ok (.iload_n 3, 1) := by decide +kernel
theorem dX7_share_89 : decode cX7_share 89 = .ok (.iload 5, 2) := by decide +kernel
theorem dX7_share_91 : decode cX7_share 91 = .ok (.aload_n 0, 1) := by decide +kernel
theorem dX7_share_92 : decode cX7_share 92 = .ok (.iload 4, 2) := by decide +kernel
theorem dX7_share_94 : decode cX7_share 94 = .ok (.iconst 1, 1) := by decide +kernel
theorem dX7_share_95 : decode cX7_share 95 = .ok (.iload_n 1, 1) := by decide +kernel
theorem dX7_share_96 : decode cX7_share 96 = .ok (.ishl, 1) := by decide +kernel
theorem dX7_share_97 : decode cX7_share 97 = .ok (.ior, 1) := by decide +kernel
theorem dX7_share_98 : decode cX7_share 98 = .ok (.invokevirtual 218, 3) := by decide +kernel
theorem dX7_share_101 : decode cX7_share 101 = .ok (.aload_n 0, 1) := by decide +kernel
theorem dX7_share_102 : decode cX7_share 102 = .ok (.iload 4, 2) := by decide +kernel
theorem dX7_share_104 : decode cX7_share 104 = .ok (.invokevirtual 218, 3) := by decide +kernel
theorem dX7_share_107 : decode cX7_share 107 = .ok (.isub, 1) := by decide +kernel
theorem dX7_share_108 : decode cX7_share 108 = .ok (.imul, 1) := by decide +kernel
theorem dX7_share_109 : decode cX7_share 109 = .ok (.iadd, 1) := by decide +kernel
theorem dX7_share_110 : decode cX7_share 110 = .ok (.istore_n 3, 1) := by decide +kernel
theorem dX7_share_111 : decode cX7_share 111 = .ok (.iinc 4 1, 3) := by decide +kernel
theorem dX7_share_114 : decode cX7_share 114 = .ok (.goto (-72), 3) := by decide +kernel
theorem dX7_share_117 : decode cX7_share 117 = .ok (.iload_n 3, 1) := by decide +kernel
theorem dX7_share_118 : decode cX7_share 118 = .ok (.aload_n 0, 1) := by decide +kernel
theorem dX7_share_119 : decode cX7_share 119 = .ok (.getfield 96, 3) := by decide +kernel
theorem dX7_share_122 : decode cX7_share 122 = .ok (.invokestatic 215, 3) := by decide +kernel
theorem dX7_share_125 : decode cX7_share 125 = .ok (.invokestatic 221, 3) := by decide +kernel
theorem dX7_share_128 : decode cX7_share 128 = .ok (.istore 4, 2) := by decide +kernel
theorem dX7_share_130 : decode cX7_share 130 = .ok (.iload_n 2, 1) := by decide +kernel
theorem dX7_share_131 : decode cX7_share 131 = .ok (.ifCond .eq 10, 3) := by decide +kernel
theorem dX7_share_134 : decode cX7_share 134 = .ok (.iload_n 3, 1) := by decide +kernel
theorem dX7_share_135 : decode cX7_share 135 = .ok (.iload 4, 2) := by decide +kernel
theorem dX7_share_137 : decode cX7_share 137 = .ok (.idiv, 1) := by decide +kernel
theorem dX7_share_138 : decode cX7_share 138 = .ok (.goto 13, 3) := by decide +kernel
theorem dX7_share_141 : decode cX7_share 141 = .ok (.aload_n 0, 1) := by decide +kernel
theorem dX7_share_142 : decode cX7_share 142 = .ok (.getfield 96, 3) := by decide +kernel
theorem dX7_share_145 : decode cX7_share 145 = .ok (.invokestatic 215, 3) := by decide +kernel
theorem dX7_share_148 : decode cX7_share 148 = .ok (.iload 4, 2) := by decide +kernel
theorem dX7_share_150 : decode cX7_share 150 = .ok (.idiv, 1) := by decide +kernel
theorem dX7_share_151 : decode cX7_share 151 = .ok (.ireturn, 1) := by decide +kernel
set_option maxRecDepth 20000 in
theorem ggX7_choose_X7_canStep : GoodIn wsX7_choose wsX7_canStep := goodIn_r _ [5, 6, 7, 8, 9, 4, 10, 11, 12, 13, 14, 15, 16, 17, 18, 19, 20, 21, 22, 23, 24, 25, 26, 27, 28, 29, 30, 31, 32, 33, 34, 35, 36, 37, 38, 39, 40, 41, 42, 43, 44, 50, 51, 52, 53, 54, 55, 56, 57, 58, 59, 60, 61, 62, 63, 64, 65, 66, 67, 68, 69, 70, 71, 72, 73, 74, 75, 76, 77, 78, 79] (by decide +kernel) (by decide +kernel)
set_option maxRecDepth 20000 in
theorem gX7_choose_X7_canStep : GoodIn wsX7_choose (wsV RX7 146 RX7 yX7_canStep wsX7_canStep) := goodIn_app (goodIn_of _ (by decide +kernel)) ggX7_choose_X7_canStep
set_option maxRecDepth 20000 in
theorem ggX7_choose_X7_stepOn : GoodIn wsX7_choose wsX7_stepOn := goodIn_r _ [48, 6, 34, 49, 28, 15, 16, 17, 4, 18, 19, 20, 21, 22, 23, 12, 13, 14, 24, 25, 26, 27, 29, 30, 31, 32, 33, 35, 36, 37, 38, 39, 40, 41, 42, 43, 44, 50, 51, 52, 53, 54, 55, 56, 57, 58, 59, 60, 61, 62, 63, 64, 65, 66, 67, 68, 69, 70, 71, 72, 73, 74, 75, 76, 77, 78, 79] (by decide +kernel) (by decide +kernel)
set_option maxRecDepth 20000 in
theorem gX7_choose_X7_stepOn : GoodIn wsX7_choose (wsV RX7 153 RX7 yX7_stepOn wsX7_stepOn) := goodIn_app (goodIn_of _ (by decide +kernel)) ggX7_choose_X7_stepOn
theorem dX7_choose_0 : decode cX7_choose 0 = .ok (.iload_n 2, 1) := by decide +kernel
theorem dX7_choose_1 : decode cX7_choose 1 = .ok (.iconst 2, 1) := by decide +kernel
theorem dX7_choose_2 : decode cX7_choose 2 = .ok (.if_icmp .ge 26, 3) := by decide +kernel
theorem dX7_choose_5 : decode cX7_choose 5 = .ok (.aload_n 0, 1) := by decide +kernel
theorem dX7_choose_6 : decode cX7_choose 6 = .ok (.iconst 1, 1) := by decide +kernel
theorem dX7_choose_7 : decode cX7_choose 7 = .ok (.iload_n 1, 1) := by decide +kernel
theorem dX7_choose_8 : decode cX7_choose 8 = .ok (.iload_n 2, 1) := by decide +kernel
theorem dX7_choose_9 : decode cX7_choose 9 = .ok (.iconst 1, 1) := by decide +kernel
theorem dX7_choose_10 : decode cX7_choose 10 = .ok (.if_icmp .ne 7, 3) := by decide +kernel
theorem dX7_choose_13 : decode cX7_choose 13 = .ok (.iconst 1, 1) := by decide +kernel
theorem dX7_choose_14 : decode cX7_choose 14 = .ok (.goto 4, 3) := by decide +kernel
theorem dX7_choose_17 : decode cX7_choose 17 = .ok (.iconst 0, 1) := by decide +kernel
theorem dX7_choose_18 : decode cX7_choose 18 = .ok (.invokevirtual 146, 3) := by decide +kernel
theorem dX7_choose_21 : decode cX7_choose 21 = .ok (.ifCond .eq 7, 3) := by decide +kernel
theorem dX7_choose_24 : decode cX7_choose 24 = .ok (.iconst 1, 1) := by decide +kernel
theorem dX7_choose_25 : decode cX7_choose 25 = .ok (.goto 4, 3) := by decide +kernel
theorem dX7_choose_28 : decode cX7_choose 28 = .ok (.iconst 0, 1) := by decide +kernel
theorem dX7_choose_29 : decode cX7_choose 29 = .ok (.istore_n 3, 1) := by decide +kernel
theorem dX7_choose_30 : decode cX7_choose 30 = .ok (.iload_n 3, 1) := by decide +kernel
theorem dX7_choose_31 : decode cX7_choose 31 = .ok (.ifCond .eq 19, 3) := by decide +kernel
theorem dX7_choose_34 : decode cX7_choose 34 = .ok (.aload_n 0, 1) := by decide +kernel
theorem dX7_choose_35 : decode cX7_choose 35 = .ok (.iconst 1, 1) := by decide +kernel
theorem dX7_choose_36 : decode cX7_choose 36 = .ok (.iload_n 1, 1) := by decide +kernel
theorem dX7_choose_37 : decode cX7_choose 37 = .ok (.iload_n 2, 1) := by decide +kernel
theorem dX7_choose_38 : decode cX7_choose 38 = .ok (.iconst 1, 1) := by decide +kernel
theorem dX7_choose_39 : decode cX7_choose 39 = .ok (.if_icmp .ne 7, 3) := by decide +kernel
theorem dX7_choose_42 : decode cX7_choose 42 = .ok (.iconst 1, 1) := by decide +kernel
theorem dX7_choose_43 : decode cX7_choose 43 = .ok (.goto 4, 3) := by decide +kernel
theorem dX7_choose_46 : decode cX7_choose 46 = .ok (.iconst 0, 1) := by decide +kernel
theorem dX7_choose_47 : decode cX7_choose 47 = .ok (.invokevirtual 153, 3) := by decide +kernel
theorem dX7_choose_50 : decode cX7_choose 50 = .ok (.iload_n 3, 1) := by decide +kernel
theorem dX7_choose_51 : decode cX7_choose 51 = .ok (.ireturn, 1) := by decide +kernel
set_option maxRecDepth 20000 in
theorem ggX7_gain_X7_layTrial : GoodIn wsX7_gain wsX7_layTrial := goodIn_r _ [6, 1, 82, 83, 84, 85, 86, 87, 88, 89, 90, 91, 92, 93, 94, 95, 96, 97, 98, 99, 100, 101, 102, 103, 104, 105, 106, 107, 108, 109, 110, 111] (by decide +kernel) (by decide +kernel)
set_option maxRecDepth 20000 in
theorem gX7_gain_X7_layTrial : GoodIn wsX7_gain (wsV RX7 200 RX7 yX7_layTrial wsX7_layTrial) := goodIn_app (goodIn_of _ (by decide +kernel)) ggX7_gain_X7_layTrial
set_option maxRecDepth 20000 in
theorem ggX7_gain_X7_choose : GoodIn wsX7_gain wsX7_choose := goodIn_r _ [10, 11, 12, 13, 5, 14, 1, 15, 16, 17, 18, 19, 20, 21, 22, 23, 24, 25, 26, 27, 28, 29, 30, 31, 32, 33, 34, 35, 36, 37, 38, 39, 40, 41, 42, 43, 44, 45, 46, 47, 48, 49, 50, 51, 52, 53, 54, 55, 56, 57, 82, 83, 84, 85, 86, 87, 88, 89, 90, 91, 92, 93, 94, 95, 96, 97, 98, 99, 100, 101, 102, 103, 104, 105, 106, 107, 108, 109, 110, 111] (by decide +kernel) (by decide +kernel)
set_option maxRecDepth 20000 in
theorem gX7_gain_X7_choose : GoodIn wsX7_gain (wsV RX7 224 RX7 yX7_choose wsX7_choose) := goodIn_app (goodIn_of _ (by decide +kernel)) ggX7_gain_X7_choose
set_option maxRecDepth 20000 in
theorem ggX7_gain_X7_reachOn : GoodIn wsX7_gain wsX7_reachOn := goodIn_r _ [61, 62, 63, 64, 65, 66, 5, 67, 68, 69, 1, 70, 71, 72, 73, 74, 75, 76, 77, 36, 42, 57, 23, 24, 25, 26, 27, 28, 29, 30, 31, 20, 21, 22, 37, 38, 39, 40, 41, 43, 44, 45, 46, 47, 48, 49, 50, 51, 52, 78, 79, 80, 81, 82, 83, 84, 85, 86, 87, 88, 89, 90, 91, 92, 93, 94, 95, 96, 97, 98, 99, 100, 101, 102, 103, 104, 105, 106, 107, 108, 109, 110, 111] (by decide +kernel) (by decide +kernel)
set_option maxRecDepth 20000 in
theorem gX7_gain_X7_reachOn : GoodIn wsX7_gain (wsV RX7 179 RX7 yX7_reachOn wsX7_reachOn) := goodIn_app (goodIn_of _ (by decide +kernel)) ggX7_gain_X7_reachOn
set_option maxRecDepth 20000 in
theorem ggX7_gain_X7_has : GoodIn wsX7_gain wsX7_has := goodIn_r _ [46] (by decide +kernel) (by decide +kernel)
set_option maxRecDepth 20000 in
theorem gX7_gain_X7_has : GoodIn wsX7_gain (va_wsS RX7 108 yX7_has wsX7_has) := goodIn_app (goodIn_of _ (by decide +kernel)) ggX7_gain_X7_has
theorem dX7_gain_0 : decode cX7_gain 0 = .ok (.aload_n 0, 1) := by decide +kernel
theorem dX7_gain_1 : decode cX7_gain 1 = .ok (.invokevirtual 200, 3) := by decide +kernel
theorem dX7_gain_4 : decode cX7_gain 4 = .ok (.aload_n 0, 1) := by decide +kernel
theorem dX7_gain_5 : decode cX7_gain 5 = .ok (.iload_n 1, 1) := by decide +kernel
theorem dX7_gain_6 : decode cX7_gain 6 = .ok (.iload_n 3, 1) := by decide +kernel
theorem dX7_gain_7 : decode cX7_gain 7 = .ok (.invokevirtual 224, 3) := by decide +kernel
theorem dX7_gain_10 : decode cX7_gain 10 = .ok (.istore 6, 2) := by decide +kernel
theorem dX7_gain_12 : decode cX7_gain 12 = .ok (.aload_n 0, 1) := by decide +kernel
theorem dX7_gain_13 : decode cX7_gain 13 = .ok (.iload_n 2, 1) := by decide +kernel
theorem dX7_gain_14 : decode cX7_gain 14 = .ok (.iload 4, 2) := by decide +kernel
theorem dX7_gain_16 : decode cX7_gain 16 = .ok (.invokevirtual 224, 3) := by decide +kernel
theorem dX7_gain_19 : decode cX7_gain 19 = .ok (.istore 7, 2) := by decide +kernel
theorem dX7_gain_21 : decode cX7_gain 21 = .ok (.iload 5, 2) := by decide +kernel
theorem dX7_gain_23 : decode cX7_gain 23 = .ok (.ifCond .eq 7, 3) := by decide +kernel
theorem dX7_gain_26 : decode cX7_gain 26 = .ok (.iload_n 1, 1) := by decide +kernel
theorem dX7_gain_27 : decode cX7_gain 27 = .ok (.goto 4, 3) := by decide +kernel
theorem dX7_gain_30 : decode cX7_gain 30 = .ok (.iload_n 2, 1) := by decide +kernel
theorem dX7_gain_31 : decode cX7_gain 31 = .ok (.istore 8, 2) := by decide +kernel
theorem dX7_gain_33 : decode cX7_gain 33 = .ok (.iload 5, 2) := by decide +kernel
theorem dX7_gain_35 : decode cX7_gain 35 = .ok (.ifCond .eq 7, 3) := by decide +kernel
theorem dX7_gain_38 : decode cX7_gain 38 = .ok (.iload_n 2, 1) := by decide +kernel
theorem dX7_gain_39 : decode cX7_gain 39 = .ok (.goto 4, 3) := by decide +kernel
theorem dX7_gain_42 : decode cX7_gain 42 = .ok (.iload_n 1, 1) := by decide +kernel
theorem dX7_gain_43 : decode cX7_gain 43 = .ok (.istore 9, 2) := by decide +kernel
theorem dX7_gain_45 : decode cX7_gain 45 = .ok (.aload_n 0, 1) := by decide +kernel
theorem dX7_gain_46 : decode cX7_gain 46 = .ok (.getfield 22, 3) := by decide +kernel
theorem dX7_gain_49 : decode cX7_gain 49 = .ok (.bipush 14, 2) := by decide +kernel
theorem dX7_gain_51 : decode cX7_gain 51 = .ok (.iload 8, 2) := by decide +kernel
theorem dX7_gain_53 : decode cX7_gain 53 = .ok (.iadd, 1) := by decide +kernel
theorem dX7_gain_54 : decode cX7_gain 54 = .ok (.iaload, 1) := by decide +kernel
theorem dX7_gain_55 : decode cX7_gain 55 = .ok (.aload_n 0, 1) := by decide +kernel
theorem dX7_gain_56 : decode cX7_gain 56 = .ok (.getfield 22, 3) := by decide +kernel
theorem dX7_gain_59 : decode cX7_gain 59 = .ok (.bipush 14, 2) := by decide +kernel
theorem dX7_gain_61 : decode cX7_gain 61 = .ok (.iload 9, 2) := by decide +kernel
theorem dX7_gain_63 : decode cX7_gain 63 = .ok (.iadd, 1) := by decide +kernel
theorem dX7_gain_64 : decode cX7_gain 64 = .ok (.iaload, 1) := by decide +kernel
theorem dX7_gain_65 : decode cX7_gain 65 = .ok (.if_icmp .eq 7, 3) := by decide +kernel
theorem dX7_gain_68 : decode cX7_gain 68 = .ok (.iconst 1, 1) := by decide +kernel
theorem dX7_gain_69 : decode cX7_gain 69 = .ok (.goto 4, 3) := by decide +kernel
theorem dX7_gain_72 : decode cX7_gain 72 = .ok (.iconst 0, 1) := by decide +kernel
theorem dX7_gain_73 : decode cX7_gain 73 = .ok (.istore 10, 2) := by decide +kernel
theorem dX7_gain_75 : decode cX7_gain 75 = .ok (.iload 10, 2) := by decide +kernel
theorem dX7_gain_77 : decode cX7_gain 77 = .ok (.ifCond .eq 37, 3) := by decide +kernel
theorem dX7_gain_80 : decode cX7_gain 80 = .ok (.aload_n 0, 1) := by decide +kernel
theorem dX7_gain_81 : decode cX7_gain 81 = .ok (.iconst 1, 1) := by decide +kernel
theorem dX7_gain_82 : decode cX7_gain 82 = .ok (.iload 8, 2) := by decide +kernel
theorem dX7_gain_84 : decode cX7_gain 84 = .ok (.aload_n 0, 1) := by decide +kernel
theorem dX7_gain_85 : decode cX7_gain 85 = .ok (.getfield 22, 3) := by decide +kernel
theorem dX7_gain_88 : decode cX7_gain 88 = .ok (.bipush 24, 2) := by decide +kernel
theorem dX7_gain_90 : decode cX7_gain 90 = .ok (.iaload, 1) := by decide +kernel
theorem dX7_gain_91 : decode cX7_gain 91 = .ok (.invokevirtual 179, 3) := by decide +kernel
theorem dX7_gain_94 : decode cX7_gain 94 = .ok (.aload_n 0, 1) := by decide +kernel
theorem dX7_gain_95 : decode cX7_gain 95 = .ok (.getfield 22, 3) := by decide +kernel
theorem dX7_gain_98 : decode cX7_gain 98 = .ok (.bipush 14, 2) := by decide +kernel
theorem dX7_gain_100 : decode cX7_gain 100 = .ok (.iload 9, 2) := by decide +kernel
theorem dX7_gain_102 : decode cX7_gain 102 = .ok (.iadd, 1) := by decide +kernel
theorem dX7_gain_103 : decode cX7_gain 103 = .ok (.iaload, 1) := by decide +kernel
theorem dX7_gain_104 : decode cX7_gain 104 = .ok (.invokestatic 108, 3) := by decide +kernel
theorem dX7_gain_107 : decode cX7_gain 107 = .ok (.ifCond .eq 7, 3) := by decide +kernel
theorem dX7_gain_110 : decode cX7_gain 110 = .ok (.iconst 1, 1) := by decide +kernel
theorem dX7_gain_111 : decode cX7_gain 111 = .ok (.goto 4, 3) := by decide +kernel
theorem dX7_gain_114 : decode cX7_gain 114 = .ok (.iconst 0, 1) := by decide +kernel
theorem dX7_gain_115 : decode cX7_gain 115 = .ok (.istore 11, 2) := by decide +kernel
theorem dX7_gain_117 : decode cX7_gain 117 = .ok (.iload 10, 2) := by decide +kernel
theorem dX7_gain_119 : decode cX7_gain 119 = .ok (.ifCond .eq 7, 3) := by decide +kernel
theorem dX7_gain_122 : decode cX7_gain 122 = .ok (.iconst 2, 1) := by decide +kernel
theorem dX7_gain_123 : decode cX7_gain 123 = .ok (.goto 4, 3) := by decide +kernel
theorem dX7_gain_126 : decode cX7_gain 126 = .ok (.iconst 0, 1) := by decide +kernel
theorem dX7_gain_127 : decode cX7_gain 127 = .ok (.iload 5, 2) := by decide +kernel
theorem dX7_gain_129 : decode cX7_gain 129 = .ok (.ifCond .eq 11, 3) := by decide +kernel
theorem dX7_gain_132 : decode cX7_gain 132 = .ok (.iload 6, 2) := by decide +kernel
theorem dX7_gain_134 : decode cX7_gain 134 = .ok (.ifCond .eq 15, 3) := by decide +kernel
theorem dX7_gain_137 : decode cX7_gain 137 = .ok (.goto 8, 3) := by decide +kernel
theorem dX7_gain_140 : decode cX7_gain 140 = .ok (.iload 7, 2) := by decide +kernel
theorem dX7_gain_142 : decode cX7_gain 142 = .ok (.ifCond .eq 7, 3) := by decide +kernel
theorem dX7_gain_145 : decode cX7_gain 145 = .ok (.iconst 1, 1) := by decide +kernel
theorem dX7_gain_146 : decode cX7_gain 146 = .ok (.goto 4, 3) := by decide +kernel
theorem dX7_gain_149 : decode cX7_gain 149 = .ok (.iconst 0, 1) := by decide +kernel
theorem dX7_gain_150 : decode cX7_gain 150 = .ok (.iadd, 1) := by decide +kernel
theorem dX7_gain_151 : decode cX7_gain 151 = .ok (.iload 11, 2) := by decide +kernel
theorem dX7_gain_153 : decode cX7_gain 153 = .ok (.ifCond .eq 7, 3) := by decide +kernel
theorem dX7_gain_156 : decode cX7_gain 156 = .ok (.iconst 4, 1) := by decide +kernel
theorem dX7_gain_157 : decode cX7_gain 157 = .ok (.goto 4, 3) := by decide +kernel
theorem dX7_gain_160 : decode cX7_gain 160 = .ok (.iconst 0, 1) := by decide +kernel
theorem dX7_gain_161 : decode cX7_gain 161 = .ok (.iadd, 1) := by decide +kernel
theorem dX7_gain_162 : decode cX7_gain 162 = .ok (.ireturn, 1) := by decide +kernel
set_option maxRecDepth 20000 in
theorem ggX7_isRest_X7_gain : GoodIn wsX7_isRest wsX7_gain := goodIn_r _ [5, 6, 7, 8, 9, 4, 10, 11, 12, 13, 14, 15, 16, 17, 18, 19, 20, 21, 22, 23, 24, 25, 26, 27, 28, 29, 30, 31, 32, 33, 34, 35, 36, 37, 38, 39, 40, 41, 42, 43, 44, 45, 46, 47, 48, 49, 50, 51, 52, 53, 54, 55, 56, 57, 58, 59, 60, 61, 62, 63, 64, 65, 66, 67, 68, 69, 70, 71, 72, 73, 74, 75, 76, 77, 78, 79, 80, 81, 82, 83, 84, 85, 86, 87, 88, 89, 90, 91, 92, 93, 94, 95, 96, 97, 98, 99, 100, 101, 102, 103, 104, 105, 106, 107, 108, 109, 110, 111, 112, 113, 114, 115] (by decide +kernel) (by decide +kernel)
set_option maxRecDepth 20000 in
theorem gX7_isRest_X7_gain : GoodIn wsX7_isRest (wsV RX7 227 RX7 yX7_gain wsX7_gain) := goodIn_app (goodIn_of _ (by decide +kernel)) ggX7_isRest_X7_gain
theorem dX7_isRest_0 : decode cX7_isRest 0 = .ok (.iconst 1, 1) := by decide +kernel
theorem dX7_isRest_1 : decode cX7_isRest 1 = .ok (.istore 5, 2) := by decide +kernel
theorem dX7_isRest_3 : decode cX7_isRest 3 = .ok (.iconst 0, 1) := by decide +kernel
theorem dX7_isRest_4 : decode cX7_isRest 4 = .ok (.istore 6, 2) := by decide +kernel
theorem dX7_isRest_6 : decode cX7_isRest 6 = .ok (.iload 6, 2) := by decide +kernel
theorem dX7_isRest_8 : decode cX7_isRest 8 = .ok (.iconst 3, 1) := by decide +kernel
theorem dX7_isRest_9 : decode cX7_isRest 9 = .ok (.if_icmp .ge 68, 3) := by decide +kernel
theorem dX7_isRest_12 : decode cX7_isRest 12 = .ok (.iload 5, 2) := by decide +kernel
theorem dX7_isRest_14 : decode cX7_isRest 14 = .ok (.ifCond .eq 54, 3) := by decide +kernel
theorem dX7_isRest_17 : decode cX7_isRest 17 = .ok (.aload_n 0, 1) := by decide +kernel
theorem dX7_isRest_18 : decode cX7_isRest 18 = .ok (.iload_n 1, 1) := by decide +kernel
theorem dX7_isRest_19 : decode cX7_isRest 19 = .ok (.iload_n 2, 1) := by decide +kernel
theorem dX7_isRest_20 : decode cX7_isRest 20 = .ok (.iload 6, 2) := by decide +kernel
theorem dX7_isRest_22 : decode cX7_isRest 22 = .ok (.iload 4, 2) := by decide +kernel
theorem dX7_isRest_24 : decode cX7_isRest 24 = .ok (.iconst 1, 1) := by decide +kernel
theorem dX7_isRest_25 : decode cX7_isRest 25 = .ok (.invokevirtual 227, 3) := by decide +kernel
theorem dX7_isRest_28 : decode cX7_isRest 28 = .ok (.aload_n 0, 1) := by decide +kernel
theorem dX7_isRest_29 : decode cX7_isRest 29 = .ok (.iload_n 1, 1) := by decide +kernel
theorem dX7_isRest_30 : decode cX7_isRest 30 = .ok (.iload_n 2, 1) := by decide +kernel
theorem dX7_isRest_31 : decode cX7_isRest 31 = .ok (.iload_n 3, 1) := by decide +kernel
theorem dX7_isRest_32 : decode cX7_isRest 32 = .ok (.iload 4, 2) := by decide +kernel
theorem dX7_isRest_34 : decode cX7_isRest 34 = .ok (.iconst 1, 1) := by decide +kernel
theorem dX7_isRest_35 : decode cX7_isRest 35 = .ok (.invokevirtual 227, 3) := by decide +kernel
theorem dX7_isRest_38 : decode cX7_isRest 38 = .ok (.if_icmp .gt 30, 3) := by decide +kernel
theorem dX7_isRest_41 : decode cX7_isRest 41 = .ok (.aload_n 0, 1) := by decide +kernel
theorem dX7_isRest_42 : decode cX7_isRest 42 = .ok (.iload_n 1, 1) := by decide +kernel
theorem dX7_isRest_43 : decode cX7_isRest 43 = .ok (.iload_n 2, 1) := by decide +kernel
theorem dX7_isRest_44 : decode cX7_isRest 44 = .ok (.iload_n 3, 1) := by decide +kernel
theorem dX7_isRest_45 : decode cX7_isRest 45 = .ok (.iload 6, 2) := by decide +kernel
theorem dX7_isRest_47 : decode cX7_isRest 47 = .ok (.iconst 0, 1) := by decide +kernel
theorem dX7_isRest_48 : decode cX7_isRest 48 = .ok (.invokevirtual 227, 3) := by decide +kernel
theorem dX7_isRest_51 : decode cX7_isRest 51 = .ok (.aload_n 0, 1) := by decide +kernel
theorem dX7_isRest_52 : decode cX7_isRest 52 = .ok (.iload_n 1, 1) := by decide +kernel
theorem dX7_isRest_53 : decode cX7_isRest 53 = .ok (.iload_n 2, 1) := by decide +kernel
theorem dX7_isRest_54 : decode cX7_isRest 54 = .ok (.iload_n 3, 1) := by decide +kernel
theorem dX7_isRest_55 : decode cX7_isRest 55 = .ok (.iload 4, 2) := by decide +kernel
theorem dX7_isRest_57 : decode cX7_isRest 57 = .ok (.iconst 0, 1) := by decide +kernel
theorem dX7_isRest_58 : decode cX7_isRest 58 = .ok (.invokevirtual 227, 3) := by decide +kernel
theorem dX7_isRest_61 : decode cX7_isRest 61 = .ok (.if_icmp .gt 7, 3) := by decide +kernel
theorem dX7_isRest_64 : decode cX7_isRest 64 = .ok (.iconst 1, 1) := by decide +kernel
theorem dX7_isRest_65 : decode cX7_isRest 65 = .ok (.goto 4, 3) := by decide +kernel
theorem dX7_isRest_68 : decode cX7_isRest 68 = .ok (.iconst 0, 1) := by decide +kernel
theorem dX7_isRest_69 : decode cX7_isRest 69 = .ok (.istore 5, 2) := by decide +kernel
theorem dX7_isRest_71 : decode cX7_isRest 71 = .ok (.iinc 6 1, 3) := by decide +kernel
theorem dX7_isRest_74 : decode cX7_isRest 74 = .ok (.goto (-68), 3) := by decide +kernel
theorem dX7_isRest_77 : decode cX7_isRest 77 = .ok (.iload 5, 2) := by decide +kernel
theorem dX7_isRest_79 : decode cX7_isRest 79 = .ok (.ireturn, 1) := by decide +kernel
set_option maxRecDepth 20000 in
theorem ggX7_rests_X7_isTraveller : GoodIn wsX7_rests wsX7_isTraveller := goodIn_r _ [5, 6, 7, 8, 4, 9, 90, 91, 92, 93, 94, 95, 96, 97, 98, 99, 100, 101, 102, 103, 104, 105, 106, 107, 108, 109, 110, 111, 112, 113, 114, 115, 116, 117, 118, 119] (by decide +kernel) (by decide +kernel)
set_option maxRecDepth 20000 in
theorem gX7_rests_X7_isTraveller : GoodIn wsX7_rests (wsV RX7 126 RX7 yX7_isTraveller wsX7_isTraveller) := goodIn_app (goodIn_of _ (by decide +kernel)) ggX7_rests_X7_isTraveller
set_option maxRecDepth 20000 in
theorem ggX7_rests_X7_in : GoodIn wsX7_rests wsX7_in := goodIn_r _ [9] (by decide +kernel) (by decide +kernel)
set_option maxRecDepth 20000 in
theorem gX7_rests_X7_in : GoodIn wsX7_rests (va_wsS RX7 61 yX7_in wsX7_in) := goodIn_app (goodIn_of _ (by decide +kernel)) ggX7_rests_X7_in
set_option maxRecDepth 20000 in
theorem ggX7_rests_X7_isRest : GoodIn wsX7_rests wsX7_isRest := goodIn_r _ [13, 14, 15, 16, 4, 17, 18, 19, 20, 21, 22, 23, 24, 25, 26, 27, 28, 29, 30, 1, 2, 3, 5, 6, 7, 8, 9, 31, 32, 33, 34, 35, 36, 37, 38, 39, 40, 41, 42, 43, 44, 45, 46, 47, 48, 49, 50, 51, 52, 53, 54, 55, 56, 57, 58, 59, 60, 61, 62, 63, 64, 65, 66, 67, 68, 69, 70, 71, 72, 73, 74, 75, 76, 77, 78, 79, 80, 81, 82, 83, 84, 85, 86, 87, 88, 89, 90, 91, 92, 93, 94, 95, 96, 97, 98, 99, 100, 101, 102, 103, 104, 105, 106, 107, 108, 109, 110, 111, 112, 113, 114, 115, 116, 117, 118, 119] (by decide +kernel) (by decide +kernel)
set_option maxRecDepth 20000 in
theorem gX7_rests_X7_isRest : GoodIn wsX7_rests (wsV RX7 231 RX7 yX7_isRest wsX7_isRest) := goodIn_app (goodIn_of _ (by decide +kernel)) ggX7_rests_X7_isRest
theorem dX7_rests_0 : decode cX7_rests 0 = .ok (.aload_n 0, 1) := by decide +kernel
theorem dX7_rests_1 : decode cX7_rests 1 = .ok (.iload_n 1, 1) := by decide +kernel
theorem dX7_rests_2 : decode cX7_rests 2 = .ok (.invokevirtual 126, 3) := by decide +kernel
theorem dX7_rests_5 : decode cX7_rests 5 = .ok (.ifCond .eq 11, 3) := by decide +kernel
theorem dX7_rests_8 : decode cX7_rests 8 = .ok (.aload_n 0, 1) := by decide +kernel
theorem dX7_rests_9 : decode cX7_rests 9 = .ok (.iload_n 2, 1) := by decide +kernel
theorem dX7_rests_10 : decode cX7_rests 10 = .ok (.invokevirtual 126, 3) := by decide +kernel
theorem dX7_rests_13 : decode cX7_rests 13 = .ok (.ifCond .ne 5, 3) := by decide +kernel
theorem dX7_rests_16 : decode cX7_rests 16 = .ok (.iconst (-1), 1) := by decide +kernel
theorem dX7_rests_17 : decode cX7_rests 17 = .ok (.ireturn, 1) := by decide +kernel
theorem dX7_rests_18 : decode cX7_rests 18 = .ok (.iload_n 1, 1) := by decide +kernel
theorem dX7_rests_19 : decode cX7_rests 19 = .ok (.iload_n 2, 1) := by decide +kernel
theorem dX7_rests_20 : decode cX7_rests 20 = .ok (.if_icmp .eq 13, 3) := by decide +kernel
theorem dX7_rests_23 : decode cX7_rests 23 = .ok (.iload_n 3, 1) := by decide +kernel
theorem dX7_rests_24 : decode cX7_rests 24 = .ok (.i2l, 1) := by decide +kernel
theorem dX7_rests_25 : decode cX7_rests 25 = .ok (.lconst 0, 1) := by decide +kernel
theorem dX7_rests_26 : decode cX7_rests 26 = .ok (.lconst 1, 1) := by decide +kernel
theorem dX7_rests_27 : decode cX7_rests 27 = .ok (.invokestatic 61, 3) := by decide +kernel
theorem dX7_rests_30 : decode cX7_rests 30 = .ok (.ifCond .ne 6, 3) := by decide +kernel
theorem dX7_rests_33 : decode cX7_rests 33 = .ok (.bipush (-2), 2) := by decide +kernel
theorem dX7_rests_35 : decode cX7_rests 35 = .ok (.ireturn, 1) := by decide +kernel
theorem dX7_rests_36 : decode cX7_rests 36 = .ok (.iconst 0, 1) := by decide +kernel
theorem dX7_rests_37 : decode cX7_rests 37 = .ok (.istore 4, 2) := by decide +kernel
theorem dX7_rests_39 : decode cX7_rests 39 = .ok (.bipush (-9), 2) := by decide +kernel
theorem dX7_rests_41 : decode cX7_rests 41 = .ok (.istore 5, 2) := by decide +kernel
theorem dX7_rests_43 : decode cX7_rests 43 = .ok (.iconst 0, 1) := by decide +kernel
theorem dX7_rests_44 : decode cX7_rests 44 = .ok (.istore 6, 2) := by decide +kernel
theorem dX7_rests_46 : decode cX7_rests 46 = .ok (.iload 6, 2) := by decide +kernel
theorem dX7_rests_48 : decode cX7_rests 48 = .ok (.bipush 9, 2) := by decide +kernel
theorem dX7_rests_50 : decode cX7_rests 50 = .ok (.if_icmp .ge 53, 3) := by decide +kernel
theorem dX7_rests_53 : decode cX7_rests 53 = .ok (.aload_n 0, 1) := by decide +kernel
theorem dX7_rests_54 : decode cX7_rests 54 = .ok (.iload_n 1, 1) := by decide +kernel
theorem dX7_rests_55 : decode cX7_rests 55 = .ok (.iload_n 2, 1) := by decide +kernel
theorem dX7_rests_56 : decode cX7_rests 56 = .ok (.iload 6, 2) := by decide +kernel
theorem dX7_rests_58 : decode cX7_rests 58 = .ok (.iconst 3, 1) := by decide +kernel
theorem dX7_rests_59 : decode cX7_rests 59 = .ok (.idiv, 1) := by decide +kernel
theorem dX7_rests_60 : decode cX7_rests 60 = .ok (.iload 6, 2) := by decide +kernel
theorem dX7_rests_62 : decode cX7_rests 62 = .ok (.iconst 3, 1) := by decide +kernel
theorem dX7_rests_63 : decode cX7_rests 63 = .ok (.irem, 1) := by decide +kernel
theorem dX7_rests_64 : decode cX7_rests 64 = .ok (.invokevirtual 231, 3) := by decide +kernel
theorem dX7_rests_67 : decode cX7_rests 67 = .ok (.ifCond .eq 30, 3) := by decide +kernel
theorem dX7_rests_70 : decode cX7_rests 70 = .ok (.iload 4, 2) := by decide +kernel
theorem dX7_rests_72 : decode cX7_rests 72 = .ok (.ifCond .ne 18, 3) := by decide +kernel
theorem dX7_rests_75 : decode cX7_rests 75 = .ok (.bipush 10, 2) := by decide +kernel
theorem dX7_rests_77 : decode cX7_rests 77 = .ok (.iload 6, 2) := by decide +kernel
theorem dX7_rests_79 : decode cX7_rests 79 = .ok (.iconst 3, 1) := by decide +kernel
theorem dX7_rests_80 : decode cX7_rests 80 = .ok (.idiv, 1) := by decide +kernel
theorem dX7_rests_81 : decode cX7_rests 81 = .ok (.imul, 1) := by decide +kernel
theorem dX7_rests_82 : decode cX7_rests 82 = .ok (.iload 6, 2) := by decide +kernel
theorem dX7_rests_84 : decode cX7_rests 84 = .ok (.iconst 3, 1) := by decide +kernel
theorem dX7_rests_85 : decode cX7_rests 85 = .ok (.irem, 1) := by decide +kernel
theorem dX7_rests_86 : decode cX7_rests 86 = .ok (.iadd, 1) := by decide +kernel
theorem dX7_rests_87 : decode cX7_rests 87 = .ok (.goto 5, 3) := by decide +kernel
theorem dX7_rests_90 : decode cX7_rests 90 = .ok (.iload 5, 2) := by decide +kernel
theorem dX7_rests_92 : decode cX7_rests 92 = .ok (.istore 5, 2) := by decide +kernel
theorem dX7_rests_94 : decode cX7_rests 94 = .ok (.iinc 4 1, 3) := by decide +kernel
theorem dX7_rests_97 : decode cX7_rests 97 = .ok (.iinc 6 1, 3) := by decide +kernel
theorem dX7_rests_100 : decode cX7_rests 100 = .ok (.goto (-54), 3) := by decide +kernel
theorem dX7_rests_103 : decode cX7_rests 103 = .ok (.iload_n 3, 1) := by decide +kernel
theorem dX7_rests_104 : decode cX7_rests 104 = .ok (.ifCond .ne 8, 3) := by decide +kernel
theorem dX7_rests_107 : decode cX7_rests 107 = .ok (.iload 4, 2) := by decide +kernel
theorem dX7_rests_109 : decode cX7_rests 109 = .ok (.goto 5, 3) := by decide +kernel
theorem dX7_rests_112 : decode cX7_rests 112 = .ok (.iload 5, 2) := by decide +kernel
theorem dX7_rests_114 : decode cX7_rests 114 = .ok (.ireturn, 1) := by decide +kernel
theorem dX7_power_0 : decode cX7_power 0 = .ok (.iconst 1, 1) := by decide +kernel
theorem dX7_power_1 : decode cX7_power 1 = .ok (.istore_n 2, 1) := by decide +kernel
theorem dX7_power_2 : decode cX7_power 2 = .ok (.iconst 0, 1) := by decide +kernel
theorem dX7_power_3 : decode cX7_power 3 = .ok (.istore_n 3, 1) := by decide +kernel
theorem dX7_power_4 : decode cX7_power 4 = .ok (.iload_n 3, 1) := by decide +kernel
theorem dX7_power_5 : decode cX7_power 5 = .ok (.iload_n 1, 1) := by decide +kernel
theorem dX7_power_6 : decode cX7_power 6 = .ok (.if_icmp .ge 13, 3) := by decide +kernel
theorem dX7_power_9 : decode cX7_power 9 = .ok (.iload_n 2, 1) := by decide +kernel
theorem dX7_power_10 : decode cX7_power 10 = .ok (.iload_n 0, 1) := by decide +kernel
theorem dX7_power_11 : decode cX7_power 11 = .ok (.imul, 1) := by decide +kernel
theorem dX7_power_12 : decode cX7_power 12 = .ok (.istore_n 2, 1) := by decide +kernel
theorem dX7_power_13 : decode cX7_power 13 = .ok (.iinc 3 1, 3) := by decide +kernel
theorem dX7_power_16 : decode cX7_power 16 = .ok (.goto (-12), 3) := by decide +kernel
theorem dX7_power_19 : decode cX7_power 19 = .ok (.iload_n 2, 1) := by decide +kernel
theorem dX7_power_20 : decode cX7_power 20 = .ok (.ireturn, 1) := by decide +kernel
theorem dX7_iceable_0 : decode cX7_iceable 0 = .ok (.iconst 0, 1) := by decide +kernel
theorem dX7_iceable_1 : decode cX7_iceable 1 = .ok (.istore_n 1, 1) := by decide +kernel
theorem dX7_iceable_2 : decode cX7_iceable 2 = .ok (.iconst 0, 1) := by decide +kernel
theorem dX7_iceable_3 : decode cX7_iceable 3 = .ok (.istore_n 2, 1) := by decide +kernel
theorem dX7_iceable_4 : decode cX7_iceable 4 = .ok (.iload_n 2, 1) := by decide +kernel
theorem dX7_iceable_5 : decode cX7_iceable 5 = .ok (.aload_n 0, 1) := by decide +kernel
theorem dX7_iceable_6 : decode cX7_iceable 6 = .ok (.getfield 93, 3) := by decide +kernel
theorem dX7_iceable_9 : decode cX7_iceable 9 = .ok (.if_icmp .ge 35, 3) := by decide +kernel
theorem dX7_iceable_12 : decode cX7_iceable 12 = .ok (.iload_n 2, 1) := by decide +kernel
theorem dX7_iceable_13 : decode cX7_iceable 13 = .ok (.bipush 8, 2) := by decide +kernel
theorem dX7_iceable_15 : decode cX7_iceable 15 = .ok (.if_icmp .ge 29, 3) := by decide +kernel
theorem dX7_iceable_18 : decode cX7_iceable 18 = .ok (.iload_n 1, 1) := by decide +kernel
theorem dX7_iceable_19 : decode cX7_iceable 19 = .ok (.aload_n 0, 1) := by decide +kernel
theorem dX7_iceable_20 : decode cX7_iceable 20 = .ok (.getfield 13, 3) := by decide +kernel
theorem dX7_iceable_23 : decode cX7_iceable 23 = .ok (.iload_n 2, 1) := by decide +kernel
theorem dX7_iceable_24 : decode cX7_iceable 24 = .ok (.iaload, 1) := by decide +kernel
theorem dX7_iceable_25 : decode cX7_iceable 25 = .ok (.iconst 3, 1) := by decide +kernel
theorem dX7_iceable_26 : decode cX7_iceable 26 = .ok (.if_icmp .ne 7, 3) := by decide +kernel
theorem dX7_iceable_29 : decode cX7_iceable 29 = .ok (.iconst 0, 1) := by decide +kernel
theorem dX7_iceable_30 : decode cX7_iceable 30 = .ok (.goto 6, 3) := by decide +kernel
theorem dX7_iceable_33 : decode cX7_iceable 33 = .ok (.iconst 1, 1) := by decide +kernel
theorem dX7_iceable_34 : decode cX7_iceable 34 = .ok (.iload_n 2, 1) := by decide +kernel
theorem dX7_iceable_35 : decode cX7_iceable 35 = .ok (.ishl, 1) := by decide +kernel
theorem dX7_iceable_36 : decode cX7_iceable 36 = .ok (.ior, 1) := by decide +kernel
theorem dX7_iceable_37 : decode cX7_iceable 37 = .ok (.istore_n 1, 1) := by decide +kernel
theorem dX7_iceable_38 : decode cX7_iceable 38 = .ok (.iinc 2 1, 3) := by decide +kernel
theorem dX7_iceable_41 : decode cX7_iceable 41 = .ok (.goto (-37), 3) := by decide +kernel
theorem dX7_iceable_44 : decode cX7_iceable 44 = .ok (.iload_n 1, 1) := by decide +kernel
theorem dX7_iceable_45 : decode cX7_iceable 45 = .ok (.ireturn, 1) := by decide +kernel
set_option maxRecDepth 20000 in
theorem ggX7_icy_X7_isTraveller : GoodIn wsX7_icy wsX7_isTraveller := goodIn_r _ [7, 8, 9, 10, 6, 11, 84, 85, 86, 87, 88, 89, 90, 91, 92, 93, 94, 95, 96, 97, 98, 99, 100, 101, 102, 103, 104, 105, 106, 107, 108, 109, 110, 111, 112, 113] (by decide +kernel) (by decide +kernel)
set_option maxRecDepth 20000 in
theorem gX7_icy_X7_isTraveller : GoodIn wsX7_icy (wsV RX7 126 RX7 yX7_isTraveller wsX7_isTraveller) := goodIn_app (goodIn_of _ (by decide +kernel)) ggX7_icy_X7_isTraveller
set_option maxRecDepth 20000 in
theorem ggX7_icy_X7_isPlace : GoodIn wsX7_icy wsX7_isPlace := goodIn_r _ [15, 16, 9, 10, 6, 11, 84, 85, 86, 87, 88, 89, 90, 91, 92, 93, 94, 95, 96, 97, 98, 99, 100, 101, 102, 103, 104, 105, 106, 107, 108, 109, 110, 111, 112, 113] (by decide +kernel) (by decide +kernel)
set_option maxRecDepth 20000 in
theorem gX7_icy_X7_isPlace : GoodIn wsX7_icy (wsV RX7 186 RX7 yX7_isPlace wsX7_isPlace) := goodIn_app (goodIn_of _ (by decide +kernel)) ggX7_icy_X7_isPlace
set_option maxRecDepth 20000 in
theorem ggX7_icy_X7_in : GoodIn wsX7_icy wsX7_in := goodIn_r _ [11] (by decide +kernel) (by decide +kernel)
set_option maxRecDepth 20000 in
theorem gX7_icy_X7_in : GoodIn wsX7_icy (va_wsS RX7 61 yX7_in wsX7_in) := goodIn_app (goodIn_of _ (by decide +kernel)) ggX7_icy_X7_in
set_option maxRecDepth 20000 in
theorem ggX7_icy_X7_iceable : GoodIn wsX7_icy wsX7_iceable := goodIn_r _ [20, 16, 21, 84, 85, 86, 87, 88, 89, 90, 91, 92, 93, 94, 95, 96, 97, 98, 99, 100, 101, 102, 103, 104, 105, 106, 107, 108, 109, 110, 111, 112, 113] (by decide +kernel) (by decide +kernel)
set_option maxRecDepth 20000 in
theorem gX7_icy_X7_iceable : GoodIn wsX7_icy (wsV RX7 235 RX7 yX7_iceable wsX7_iceable) := goodIn_app (goodIn_of _ (by decide +kernel)) ggX7_icy_X7_iceable
set_option maxRecDepth 20000 in
theorem ggX7_icy_X7_ones : GoodIn wsX7_icy wsX7_ones := goodIn_r _ [24] (by decide +kernel) (by decide +kernel)
set_option maxRecDepth 20000 in
theorem gX7_icy_X7_ones : GoodIn wsX7_icy (va_wsS RX7 189 yX7_ones wsX7_ones) := goodIn_app (goodIn_of _ (by decide +kernel)) ggX7_icy_X7_ones
set_option maxRecDepth 20000 in
theorem ggX7_icy_X7_power : GoodIn wsX7_icy wsX7_power := goodIn_r _ [27] (by decide +kernel) (by decide +kernel)
set_option maxRecDepth 20000 in
theorem gX7_icy_X7_power : GoodIn wsX7_icy (va_wsS RX7 238 yX7_power wsX7_power) := goodIn_app (goodIn_of _ (by decide +kernel)) ggX7_icy_X7_power
set_option maxRecDepth 20000 in
theorem ggX7_icy_X7_reachNow : GoodIn wsX7_icy wsX7_reachNow := goodIn_r _ [31, 32, 33, 34, 35, 6, 36, 37, 38, 39, 40, 41, 42, 43, 44, 45, 46, 47, 48, 49, 50, 51, 52, 53, 21, 54, 55, 56, 57, 58, 59, 60, 61, 62, 16, 9, 10, 11, 63, 64, 65, 66, 2, 67, 68, 69, 70, 71, 72, 73, 74, 75, 76, 77, 78, 79, 80, 84, 85, 86, 87, 88, 89, 90, 91, 92, 93, 94, 95, 96, 97, 98, 99, 100, 101, 102, 103, 104, 105, 106, 107, 108, 109, 110, 111, 112, 113] (by decide +kernel) (by decide +kernel)
set_option maxRecDepth 20000 in
theorem gX7_icy_X7_reachNow : GoodIn wsX7_icy (wsV RX7 182 RX7 yX7_reachNow wsX7_reachNow) := goodIn_app (goodIn_of _ (by decide +kernel)) ggX7_icy_X7_reachNow
set_option maxRecDepth 20000 in
theorem ggX7_icy_X7_has : GoodIn wsX7_icy wsX7_has := goodIn_r _ [70] (by decide +kernel) (by decide +kernel)
set_option maxRecDepth 20000 in
theorem gX7_icy_X7_has : GoodIn wsX7_icy (va_wsS RX7 108 yX7_has wsX7_has) := goodIn_app (goodIn_of _ (by decide +kernel)) ggX7_icy_X7_has
set_option maxRecDepth 20000 in
theorem ggX7_icy_X7_common : GoodIn wsX7_icy wsX7_common := goodIn_r _ [83] (by decide +kernel) (by decide +kernel)
set_option maxRecDepth 20000 in
theorem gX7_icy_X7_common : GoodIn wsX7_icy (va_wsS RX7 221 yX7_common wsX7_common) := goodIn_app (goodIn_of _ (by decide +kernel)) ggX7_icy_X7_common
theorem dX7_icy_0 : decode cX7_icy 0 = .ok (.aload_n 0, 1) := by decide +kernel
theorem dX7_icy_1 : decode cX7_icy 1 = .ok (.iload_n 1, 1) := by decide +kernel
theorem dX7_icy_2 : decode cX7_icy 2 = .ok (.invokevirtual 126, 3) := by decide +kernel
theorem dX7_icy_5 : decode cX7_icy 5 = .ok (.ifCond .eq 11, 3) := by decide +kernel
theorem dX7_icy_8 : decode cX7_icy 8 = .ok (.aload_n 0, 1) := by decide +kernel
theorem dX7_icy_9 : decode cX7_icy 9 = .ok (.iload_n 2, 1) := by decide +kernel
theorem dX7_icy_10 : decode cX7_icy 10 = .ok (.invokevirtual 186, 3) := by decide +kernel
theorem dX7_icy_13 : decode cX7_icy 13 = .ok (.ifCond .ne 5, 3) := by decide +kernel
theorem dX7_icy_16 : decode cX7_icy 16 = .ok (.iconst (-1), 1) := by decide +kernel
theorem dX7_icy_17 : decode cX7_icy 17 = .ok (.ireturn, 1) := by decide +kernel
theorem dX7_icy_18 : decode cX7_icy 18 = .ok (.iload_n 3, 1) := by decide +kernel
theorem dX7_icy_19 : decode cX7_icy 19 = .ok (.i2l, 1) := by decide +kernel
theorem dX7_icy_20 : decode cX7_icy 20 = .ok (.lconst 0, 1) := by decide +kernel
theorem dX7_icy_21 : decode cX7_icy 21 = .ok (.ldc2_w 207, 3) := by decide +kernel
theorem dX7_icy_24 : decode cX7_icy 24 = .ok (.invokestatic 61, 3) := by decide +kernel
theorem dX7_icy_27 : decode cX7_icy 27 = .ok (.ifCond .ne 6, 3) := by decide +kernel
theorem dX7_icy_30 : decode cX7_icy 30 = .ok (.bipush (-2), 2) := by decide +kernel
theorem dX7_icy_32 : decode cX7_icy 32 = .ok (.ireturn, 1) := by decide +kernel
theorem dX7_icy_33 : decode cX7_icy 33 = .ok (.aload_n 0, 1) := by decide +kernel
theorem dX7_icy_34 : decode cX7_icy 34 = .ok (.invokevirtual 235, 3) := by decide +kernel
theorem dX7_icy_37 : decode cX7_icy 37 = .ok (.istore 5, 2) := by decide +kernel
theorem dX7_icy_39 : decode cX7_icy 39 = .ok (.iconst 0, 1) := by decide +kernel
theorem dX7_icy_40 : decode cX7_icy 40 = .ok (.istore 6, 2) := by decide +kernel
theorem dX7_icy_42 : decode cX7_icy 42 = .ok (.iconst 0, 1) := by decide +kernel
theorem dX7_icy_43 : decode cX7_icy 43 = .ok (.istore 7, 2) := by decide +kernel
theorem dX7_icy_45 : decode cX7_icy 45 = .ok (.iconst 0, 1) := by decide +kernel
theorem dX7_icy_46 : decode cX7_icy 46 = .ok (.istore 8, 2) := by decide +kernel
theorem dX7_icy_48 : decode cX7_icy 48 = .ok (.iload 8, 2) := by decide +kernel
theorem dX7_icy_50 : decode cX7_icy 50 = .ok (.sipush 256, 3) := by decide +kernel
theorem dX7_icy_53 : decode cX7_icy 53 = .ok (.if_icmp .ge 95, 3) := by decide +kernel
theorem dX7_icy_56 : decode cX7_icy 56 = .ok (.iload 8, 2) := by decide +kernel
theorem dX7_icy_58 : decode cX7_icy 58 = .ok (.iload 5, 2) := by decide +kernel
theorem dX7_icy_60 : decode cX7_icy 60 = .ok (.iconst (-1), 1) := by decide +kernel
theorem dX7_icy_61 : decode cX7_icy 61 = .ok (.ixor, 1) := by decide +kernel
theorem dX7_icy_62 : decode cX7_icy 62 = .ok (.iand, 1) := by decide +kernel
theorem dX7_icy_63 : decode cX7_icy 63 = .ok (.ifCond .ne 79, 3) := by decide +kernel
theorem dX7_icy_66 : decode cX7_icy 66 = .ok (.iload_n 3, 1) := by decide +kernel
theorem dX7_icy_67 : decode cX7_icy 67 = .ok (.iload 8, 2) := by decide +kernel
theorem dX7_icy_69 : decode cX7_icy 69 = .ok (.invokestatic 189, 3) := by decide +kernel
theorem dX7_icy_72 : decode cX7_icy 72 = .ok (.invokestatic 238, 3) := by decide +kernel
theorem dX7_icy_75 : decode cX7_icy 75 = .ok (.bipush 10, 2) := by decide +kernel
theorem dX7_icy_77 : decode cX7_icy 77 = .ok (.iload_n 3, 1) := by decide +kernel
theorem dX7_icy_78 : decode cX7_icy 78 = .ok (.isub, 1) := by decide +kernel
theorem dX7_icy_79 : decode cX7_icy 79 = .ok (.iload 5, 2) := by decide +kernel
theorem dX7_icy_81 : decode cX7_icy 81 = .ok (.invokestatic 189, 3) := by decide +kernel
theorem dX7_icy_84 : decode cX7_icy 84 = .ok (.iload 8, 2) := by decide +kernel
theorem dX7_icy_86 : decode cX7_icy 86 = .ok (.invokestatic 189, 3) := by decide +kernel
theorem dX7_icy_89 : decode cX7_icy 89 = .ok (.isub, 1) := by decide +kernel
theorem dX7_icy_90 : decode cX7_icy 90 = .ok (.invokestatic 238, 3) := by decide +kernel
theorem dX7_icy_93 : decode cX7_icy 93 = .ok (.imul, 1) := by decide +kernel
theorem dX7_icy_94 : decode cX7_icy 94 = .ok (.istore 9, 2) := by decide +kernel
theorem dX7_icy_96 : decode cX7_icy 96 = .ok (.aload_n 0, 1) := by decide +kernel
theorem dX7_icy_97 : decode cX7_icy 97 = .ok (.iload 8, 2) := by decide +kernel
theorem dX7_icy_99 : decode cX7_icy 99 = .ok (.putfield 105, 3) := by decide +kernel
theorem dX7_icy_102 : decode cX7_icy 102 = .ok (.iload 7, 2) := by decide +kernel
theorem dX7_icy_104 : decode cX7_icy 104 = .ok (.iload 9, 2) := by decide +kernel
theorem dX7_icy_106 : decode cX7_icy 106 = .ok (.iadd, 1) := by decide +kernel
theorem dX7_icy_107 : decode cX7_icy 107 = .ok (.istore 7, 2) := by decide +kernel
theorem dX7_icy_109 : decode cX7_icy 109 = .ok (.iload 6, 2) := by decide +kernel
theorem dX7_icy_111 : decode cX7_icy 111 = .ok (.iload 9, 2) := by decide +kernel
theorem dX7_icy_113 : decode cX7_icy 113 = .ok (.ifCond .le 20, 3) := by decide +kernel
theorem dX7_icy_116 : decode cX7_icy 116 = .ok (.aload_n 0, 1) := by decide +kernel
theorem dX7_icy_117 : decode cX7_icy 117 = .ok (.iload_n 1, 1) := by decide +kernel
theorem dX7_icy_118 : decode cX7_icy 118 = .ok (.invokevirtual 182, 3) := by decide +kernel
theorem dX7_icy_121 : decode cX7_icy 121 = .ok (.iload_n 2, 1) := by decide +kernel
theorem dX7_icy_122 : decode cX7_icy 122 = .ok (.invokestatic 108, 3) := by decide +kernel
theorem dX7_icy_125 : decode cX7_icy 125 = .ok (.ifCond .eq 8, 3) := by decide +kernel
theorem dX7_icy_128 : decode cX7_icy 128 = .ok (.iload 9, 2) := by decide +kernel
theorem dX7_icy_130 : decode cX7_icy 130 = .ok (.goto 4, 3) := by decide +kernel
theorem dX7_icy_133 : decode cX7_icy 133 = .ok (.iconst 0, 1) := by decide +kernel
theorem dX7_icy_134 : decode cX7_icy 134 = .ok (.iadd, 1) := by decide +kernel
theorem dX7_icy_135 : decode cX7_icy 135 = .ok (.istore 6, 2) := by decide +kernel
theorem dX7_icy_137 : decode cX7_icy 137 = .ok (.aload_n 0, 1) := by decide +kernel
theorem dX7_icy_138 : decode cX7_icy 138 = .ok (.iconst 0, 1) := by decide +kernel
theorem dX7_icy_139 : decode cX7_icy 139 = .ok (.putfield 105, 3) := by decide +kernel
theorem dX7_icy_142 : decode cX7_icy 142 = .ok (.iinc 8 1, 3) := by decide +kernel
theorem dX7_icy_145 : decode cX7_icy 145 = .ok (.goto (-97), 3) := by decide +kernel
theorem dX7_icy_148 : decode cX7_icy 148 = .ok (.iload 6, 2) := by decide +kernel
theorem dX7_icy_150 : decode cX7_icy 150 = .ok (.iload 7, 2) := by decide +kernel
theorem dX7_icy_152 : decode cX7_icy 152 = .ok (.invokestatic 221, 3) := by decide +kernel
theorem dX7_icy_155 : decode cX7_icy 155 = .ok (.istore 8, 2) := by decide +kernel
theorem dX7_icy_157 : decode cX7_icy 157 = .ok (.iload 4, 2) := by decide +kernel
theorem dX7_icy_159 : decode cX7_icy 159 = .ok (.ifCond .eq 11, 3) := by decide +kernel
theorem dX7_icy_162 : decode cX7_icy 162 = .ok (.iload 6, 2) := by decide +kernel
theorem dX7_icy_164 : decode cX7_icy 164 = .ok (.iload 8, 2) := by decide +kernel
theorem dX7_icy_166 : decode cX7_icy 166 = .ok (.idiv, 1) := by decide +kernel
theorem dX7_icy_167 : decode cX7_icy 167 = .ok (.goto 8, 3) := by decide +kernel
theorem dX7_icy_170 : decode cX7_icy 170 = .ok (.iload 7, 2) := by decide +kernel
theorem dX7_icy_172 : decode cX7_icy 172 = .ok (.iload 8, 2) := by decide +kernel
theorem dX7_icy_174 : decode cX7_icy 174 = .ok (.idiv, 1) := by decide +kernel
theorem dX7_icy_175 : decode cX7_icy 175 = .ok (.ireturn, 1) := by decide +kernel
theorem dX7_seed_0 : decode cX7_seed 0 = .ok (.aload_n 0, 1) := by decide +kernel
theorem dX7_seed_1 : decode cX7_seed 1 = .ok (.getfield 241, 3) := by decide +kernel
theorem dX7_seed_4 : decode cX7_seed 4 = .ok (.lstore_n 3, 1) := by decide +kernel
theorem dX7_seed_5 : decode cX7_seed 5 = .ok (.aload_n 0, 1) := by decide +kernel
theorem dX7_seed_6 : decode cX7_seed 6 = .ok (.lload_n 1, 1) := by decide +kernel
theorem dX7_seed_7 : decode cX7_seed 7 = .ok (.putfield 241, 3) := by decide +kernel
theorem dX7_seed_10 : decode cX7_seed 10 = .ok (.lload_n 3, 1) := by decide +kernel
theorem dX7_seed_11 : decode cX7_seed 11 = .ok (.lreturn, 1) := by decide +kernel
set_option maxRecDepth 20000 in
theorem ggX7_summers_X7_in : GoodIn wsX7_summers wsX7_in := goodIn_r _ [11] (by decide +kernel) (by decide +kernel)
set_option maxRecDepth 20000 in
theorem gX7_summers_X7_in : GoodIn wsX7_summers (va_wsS RX7 61 yX7_in wsX7_in) := goodIn_app (goodIn_of _ (by decide +kernel)) ggX7_summers_X7_in
set_option maxRecDepth 20000 in
theorem ggX7_summers_X7_layTrial : GoodIn wsX7_summers wsX7_layTrial := goodIn_r _ [15, 7, 71, 72, 73, 74, 75, 76, 77, 78, 79, 80, 81, 82, 83, 84, 85, 86, 87, 88, 89, 90, 91, 92, 93, 94, 95, 96, 97, 98, 99, 100] (by decide +kernel) (by decide +kernel)
set_option maxRecDepth 20000 in
theorem gX7_summers_X7_layTrial : GoodIn wsX7_summers (wsV RX7 200 RX7 yX7_layTrial wsX7_layTrial) := goodIn_app (goodIn_of _ (by decide +kernel)) ggX7_summers_X7_layTrial
set_option maxRecDepth 20000 in
theorem ggX7_summers_X7_tryThing : GoodIn wsX7_summers wsX7_tryThing := goodIn_r _ [19, 7, 20, 21, 22, 10, 23, 24, 25, 26, 27, 6, 8, 9, 11, 28, 29, 30, 31, 32, 33, 34, 35, 36, 37, 38, 39, 40, 41, 42, 43, 44, 45, 46, 47, 48, 49, 50, 51, 52, 53, 54, 55, 56, 57, 58, 59, 60, 61, 62, 63, 64, 65, 66, 67, 68, 69, 70, 71, 72, 73, 74, 75, 76, 77, 78, 79, 80, 81, 82, 83, 84, 85, 86, 87, 88, 89, 90, 91, 92, 93, 94, 95, 96, 97, 98, 99, 100] (by decide +kernel) (by decide +kernel)
set_option maxRecDepth 20000 in
theorem gX7_summers_X7_tryThing : GoodIn wsX7_summers (wsV RX7 203 RX7 yX7_tryThing wsX7_tryThing) := goodIn_app (goodIn_of _ (by decide +kernel)) ggX7_summers_X7_tryThing
theorem dX7_summers_0 : decode cX7_summers 0 = .ok (.iload_n 1, 1) := by decide +kernel
theorem dX7_summers_1 : decode cX7_summers 1 = .ok (.i2l, 1) := by decide +kernel
theorem dX7_summers_2 : decode cX7_summers 2 = .ok (.lconst 1, 1) := by decide +kernel
theorem dX7_summers_3 : decode cX7_summers 3 = .ok (.ldc2_w 245, 3) := by decide +kernel
theorem dX7_summers_6 : decode cX7_summers 6 = .ok (.invokestatic 61, 3) := by decide +kernel
theorem dX7_summers_9 : decode cX7_summers 9 = .ok (.ifCond .ne 6, 3) := by decide +kernel
theorem dX7_summers_12 : decode cX7_summers 12 = .ok (.bipush (-2), 2) := by decide +kernel
theorem dX7_summers_14 : decode cX7_summers 14 = .ok (.ireturn, 1) := by decide +kernel
theorem dX7_summers_15 : decode cX7_summers 15 = .ok (.aload_n 0, 1) := by decide +kernel
theorem dX7_summers_16 : decode cX7_summers 16 = .ok (.invokevirtual 200, 3) := by decide +kernel
theorem dX7_summers_19 : decode cX7_summers 19 = .ok (.iconst 0, 1) := by decide +kernel
theorem dX7_summers_20 : decode cX7_summers 20 = .ok (.istore_n 2, 1) := by decide +kernel
theorem dX7_summers_21 : decode cX7_summers 21 = .ok (.iconst 0, 1) := by decide +kernel
theorem dX7_summers_22 : decode cX7_summers 22 = .ok (.istore_n 3, 1) := by decide +kernel
theorem dX7_summers_23 : decode cX7_summers 23 = .ok (.iload_n 3, 1) := by decide +kernel
theorem dX7_summers_24 : decode cX7_summers 24 = .ok (.iload_n 1, 1) := by decide +kernel
theorem dX7_summers_25 : decode cX7_summers 25 = .ok (.if_icmp .ge 169, 3) := by decide +kernel
theorem dX7_summers_28 : decode cX7_summers 28 = .ok (.aload_n 0, 1) := by decide +kernel
theorem dX7_summers_29 : decode cX7_summers 29 = .ok (.aload_n 0, 1) := by decide +kernel
theorem dX7_summers_30 : decode cX7_summers 30 = .ok (.getfield 241, 3) := by decide +kernel
theorem dX7_summers_33 : decode cX7_summers 33 = .ok (.ldc2_w 247, 3) := by decide +kernel
theorem dX7_summers_36 : decode cX7_summers 36 = .ok (.lmul, 1) := by decide +kernel
theorem dX7_summers_37 : decode cX7_summers 37 = .ok (.ldc2_w 249, 3) := by decide +kernel
theorem dX7_summers_40 : decode cX7_summers 40 = .ok (.ladd, 1) := by decide +kernel
theorem dX7_summers_41 : decode cX7_summers 41 = .ok (.putfield 241, 3) := by decide +kernel
theorem dX7_summers_44 : decode cX7_summers 44 = .ok (.aload_n 0, 1) := by decide +kernel
theorem dX7_summers_45 : decode cX7_summers 45 = .ok (.getfield 241, 3) := by decide +kernel
theorem dX7_summers_48 : decode cX7_summers 48 = .ok (.bipush 33, 2) := by decide +kernel
theorem dX7_summers_50 : decode cX7_summers 50 = .ok (.lushr, 1) := by decide +kernel
theorem dX7_summers_51 : decode cX7_summers 51 = .ok (.ldc2_w 251, 3) := by decide +kernel
theorem dX7_summers_54 : decode cX7_summers 54 = .ok (.lrem, 1) := by decide +kernel
theorem dX7_summers_55 : decode cX7_summers 55 = .ok (.l2i, 1) := by decide +kernel
theorem dX7_summers_56 : decode cX7_summers 56 = .ok (.istore 4, 2) := by decide +kernel
theorem dX7_summers_58 : decode cX7_summers 58 = .ok (.iload 4, 2) := by decide +kernel
theorem dX7_summers_60 : decode cX7_summers 60 = .ok (.bipush 10, 2) := by decide +kernel
theorem dX7_summers_62 : decode cX7_summers 62 = .ok (.if_icmp .ge 7, 3) := by decide +kernel
theorem dX7_summers_65 : decode cX7_summers 65 = .ok (.iconst 1, 1) := by decide +kernel
theorem dX7_summers_66 : decode cX7_summers 66 = .ok (.goto 26, 3) := by decide +kernel
theorem dX7_summers_69 : decode cX7_summers 69 = .ok (.iload 4, 2) := by decide +kernel
theorem dX7_summers_71 : decode cX7_summers 71 = .ok (.bipush 15, 2) := by decide +kernel
theorem dX7_summers_73 : decode cX7_summers 73 = .ok (.if_icmp .ge 7, 3) := by decide +kernel
theorem dX7_summers_76 : decode cX7_summers 76 = .ok (.iconst 2, 1) := by decide +kernel
theorem dX7_summers_77 : decode cX7_summers 77 = .ok (.goto 15, 3) := by decide +kernel
theorem dX7_summers_80 : decode cX7_summers 80 = .ok (.iload 4, 2) := by decide +kernel
theorem dX7_summers_82 : decode cX7_summers 82 = .ok (.bipush 25, 2) := by decide +kernel
theorem dX7_summers_84 : decode cX7_summers 84 = .ok (.if_icmp .ge 7, 3) := by decide +kernel
theorem dX7_summers_87 : decode cX7_summers 87 = .ok (.iconst 3, 1) := by decide +kernel
theorem dX7_summers_88 : decode cX7_summers 88 = .ok (.goto 4, 3) := by decide +kernel
theorem dX7_summers_91 : decode cX7_summers 91 = .ok (.iconst 4, 1) := by decide +kernel
theorem dX7_summers_92 : decode cX7_summers 92 = .ok (.istore 5, 2) := by decide +kernel
theorem dX7_summers_94 : decode cX7_summers 94 = .ok (.aload_n 0, 1) := by decide +kernel
theorem dX7_summers_95 : decode cX7_summers 95 = .ok (.iload 5, 2) := by decide +kernel
theorem dX7_summers_97 : decode cX7_summers 97 = .ok (.iload 5, 2) := by decide +kernel
theorem dX7_summers_99 : decode cX7_summers 99 = .ok (.iconst 1, 1) := by decide +kernel
theorem dX7_summers_100 : decode cX7_summers 100 = .ok (.if_icmp .ne 10, 3) := by decide +kernel
theorem dX7_summers_103 : decode cX7_summers 103 = .ok (.iload 4, 2) := by decide +kernel
theorem dX7_summers_105 : decode cX7_summers 105 = .ok (.iconst 2, 1) := by decide +kernel
theorem dX7_summers_106 : decode cX7_summers 106 = .ok (.idiv, 1) := by decide +kernel
theorem dX7_summers_107 : decode cX7_summers 107 = .ok (.goto 4, 3) := by decide +kernel
theorem dX7_summers_110 : decode cX7_summers 110 = .ok (.iconst 0, 1) := by decide +kernel
theorem dX7_summers_111 : decode cX7_summers 111 = .ok (.iload 5, 2) := by decide +kernel
theorem dX7_summers_113 : decode cX7_summers 113 = .ok (.iconst 1, 1) := by decide +kernel
theorem dX7_summers_114 : decode cX7_summers 114 = .ok (.if_icmp .ne 10, 3) := by decide +kernel
theorem dX7_summers_117 : decode cX7_summers 117 = .ok (.iload 4, 2) := by decide +kernel
theorem dX7_summers_119 : decode cX7_summers 119 = .ok (.iconst 2, 1) := by decide +kernel
theorem dX7_summers_120 : decode cX7_summers 120 = .ok (.irem, 1) := by decide +kernel
theorem dX7_summers_121 : decode cX7_summers 121 = .ok (.goto 32, 3) := by decide +kernel
theorem dX7_summers_124 : decode cX7_summers 124 = .ok (.iload 5, 2) := by decide +kernel
theorem dX7_summers_126 : decode cX7_summers 126 = .ok (.iconst 2, 1) := by decide +kernel
theorem dX7_summers_127 : decode cX7_summers 127 = .ok (.if_icmp .ne 11, 3) := by decide +kernel
theorem dX7_summers_130 : decode cX7_summers 130 = .ok (.iload 4, 2) := by decide +kernel
theorem dX7_summers_132 : decode cX7_summers 132 = .ok (.bipush 10, 2) := by decide +kernel
theorem dX7_summers_134 : decode cX7_summers 134 = .ok (.isub, 1) := by decide +kernel
theorem dX7_summers_135 : decode cX7_summers 135 = .ok (.goto 18, 3) := by decide +kernel
theorem dX7_summers_138 : decode cX7_summers 138 = .ok (.iload 5, 2) := by decide +kernel
theorem dX7_summers_140 : decode cX7_summers 140 = .ok (.iconst 3, 1) := by decide +kernel
theorem dX7_summers_141 : decode cX7_summers 141 = .ok (.if_icmp .ne 11, 3) := by decide +kernel
theorem dX7_summers_144 : decode cX7_summers 144 = .ok (.iload 4, 2) := by decide +kernel
theorem dX7_summers_146 : decode cX7_summers 146 = .ok (.bipush 15, 2) := by decide +kernel
theorem dX7_summers_148 : decode cX7_summers 148 = .ok (.isub, 1) := by decide +kernel
theorem dX7_summers_149 : decode cX7_summers 149 = .ok (.goto 4, 3) := by decide +kernel
theorem dX7_summers_152 : decode cX7_summers 152 = .ok (.iconst 0, 1) := by decide +kernel
theorem dX7_summers_153 : decode cX7_summers 153 = .ok (.invokevirtual 203, 3) := by decide +kernel
theorem dX7_summers_156 : decode cX7_summers 156 = .ok (.pop, 1) := by decide +kernel
theorem dX7_summers_157 : decode cX7_summers 157 = .ok (.iconst 0, 1) := by decide +kernel
theorem dX7_summers_158 : decode cX7_summers 158 = .ok (.istore 6, 2) := by decide +kernel
theorem dX7_summers_160 : decode cX7_summers 160 = .ok (.iload 6, 2) := by decide +kernel
theorem dX7_summers_162 : decode cX7_summers 162 = .ok (.aload_n 0, 1) := by decide +kernel
theorem dX7_summers_163 : decode cX7_summers 163 = .ok (.getfield 96, 3) := by decide +kernel
theorem dX7_summers_166 : decode cX7_summers 166 = .ok (.if_icmp .ge 22, 3) := by decide +kernel
theorem dX7_summers_169 : decode cX7_summers 169 = .ok (.iload_n 2, 1) := by decide +kernel
theorem dX7_summers_170 : decode cX7_summers 170 = .ok (.aload_n 0, 1) := by decide +kernel
theorem dX7_summers_171 : decode cX7_summers 171 = .ok (.getfield 22, 3) := by decide +kernel
theorem dX7_summers_174 : decode cX7_summers 174 = .ok (.bipush 14, 2) := by decide +kernel
theorem dX7_summers_176 : decode cX7_summers 176 = .ok (.iload 6, 2) := by decide +kernel
theorem dX7_summers_178 : decode cX7_summers 178 = .ok (.iadd, 1) := by decide +kernel
theorem dX7_summers_179 : decode cX7_summers 179 = .ok (.iaload, 1) := by decide +kernel
theorem dX7_summers_180 : decode cX7_summers 180 = .ok (.iadd, 1) := by decide +kernel
theorem dX7_summers_181 : decode cX7_summers 181 = .ok (.istore_n 2, 1) := by decide +kernel
theorem dX7_summers_182 : decode cX7_summers 182 = .ok (.iinc 6 1, 3) := by decide +kernel
theorem dX7_summers_185 : decode cX7_summers 185 = .ok (.goto (-25), 3) := by decide +kernel
theorem dX7_summers_188 : decode cX7_summers 188 = .ok (.iinc 3 1, 3) := by decide +kernel
theorem dX7_summers_191 : decode cX7_summers 191 = .ok (.goto (-168), 3) := by decide +kernel
theorem dX7_summers_194 : decode cX7_summers 194 = .ok (.iload_n 2, 1) := by decide +kernel
theorem dX7_summers_195 : decode cX7_summers 195 = .ok (.ireturn, 1) := by decide +kernel
set_option maxRecDepth 20000 in
theorem ggX7_keep_X7_in : GoodIn wsX7_keep wsX7_in := goodIn_r _ [7] (by decide +kernel) (by decide +kernel)
set_option maxRecDepth 20000 in
theorem gX7_keep_X7_in : GoodIn wsX7_keep (va_wsS RX7 61 yX7_in wsX7_in) := goodIn_app (goodIn_of _ (by decide +kernel)) ggX7_keep_X7_in
theorem dX7_keep_0 : decode cX7_keep 0 = .ok (.iload_n 1, 1) := by decide +kernel
theorem dX7_keep_1 : decode cX7_keep 1 = .ok (.i2l, 1) := by decide +kernel
theorem dX7_keep_2 : decode cX7_keep 2 = .ok (.lconst 0, 1) := by decide +kernel
theorem dX7_keep_3 : decode cX7_keep 3 = .ok (.lconst 1, 1) := by decide +kernel
theorem dX7_keep_4 : decode cX7_keep 4 = .ok (.invokestatic 61, 3) := by decide +kernel
theorem dX7_keep_7 : decode cX7_keep 7 = .ok (.ifCond .ne 5, 3) := by decide +kernel
theorem dX7_keep_10 : decode cX7_keep 10 = .ok (.iconst (-1), 1) := by decide +kernel
theorem dX7_keep_11 : decode cX7_keep 11 = .ok (.ireturn, 1) := by decide +kernel
theorem dX7_keep_12 : decode cX7_keep 12 = .ok (.aload_n 0, 1) := by decide +kernel
theorem dX7_keep_13 : decode cX7_keep 13 = .ok (.getfield 52, 3) := by decide +kernel
theorem dX7_keep_16 : decode cX7_keep 16 = .ok (.iload_n 1, 1) := by decide +kernel
theorem dX7_keep_17 : decode cX7_keep 17 = .ok (.iconst 1, 1) := by decide +kernel
theorem dX7_keep_18 : decode cX7_keep 18 = .ok (.bastore, 1) := by decide +kernel
theorem dX7_keep_19 : decode cX7_keep 19 = .ok (.iconst 0, 1) := by decide +kernel
theorem dX7_keep_20 : decode cX7_keep 20 = .ok (.istore_n 2, 1) := by decide +kernel
theorem dX7_keep_21 : decode cX7_keep 21 = .ok (.iload_n 2, 1) := by decide +kernel
theorem dX7_keep_22 : decode cX7_keep 22 = .ok (.bipush 14, 2) := by decide +kernel
theorem dX7_keep_24 : decode cX7_keep 24 = .ok (.if_icmp .ge 26, 3) := by decide +kernel
theorem dX7_keep_27 : decode cX7_keep 27 = .ok (.aload_n 0, 1) := by decide +kernel
theorem dX7_keep_28 : decode cX7_keep 28 = .ok (.getfield 56, 3) := by decide +kernel
theorem dX7_keep_31 : decode cX7_keep 31 = .ok (.bipush 14, 2) := by decide +kernel
theorem dX7_keep_33 : decode cX7_keep 33 = .ok (.iload_n 1, 1) := by decide +kernel
theorem dX7_keep_34 : decode cX7_keep 34 = .ok (.imul, 1) := by decide +kernel
theorem dX7_keep_35 : decode cX7_keep 35 = .ok (.iload_n 2, 1) := by decide +kernel
theorem dX7_keep_36 : decode cX7_keep 36 = .ok (.iadd, 1) := by decide +kernel
theorem dX7_keep_37 : decode cX7_keep 37 = .ok (.aload_n 0, 1) := by decide +kernel
theorem dX7_keep_38 : decode cX7_keep 38 = .ok (.getfield 22, 3) := by decide +kernel
theorem dX7_keep_41 : decode cX7_keep 41 = .ok (.iload_n 2, 1) := by decide +kernel
theorem dX7_keep_42 : decode cX7_keep 42 = .ok (.iaload, 1) := by decide +kernel
theorem dX7_keep_43 : decode cX7_keep 43 = .ok (.iastore, 1) := by decide +kernel
theorem dX7_keep_44 : decode cX7_keep 44 = .ok (.iinc 2 1, 3) := by decide +kernel
theorem dX7_keep_47 : decode cX7_keep 47 = .ok (.goto (-26), 3) := by decide +kernel
theorem dX7_keep_50 : decode cX7_keep 50 = .ok (.aload_n 0, 1) := by decide +kernel
theorem dX7_keep_51 : decode cX7_keep 51 = .ok (.getfield 22, 3) := by decide +kernel
theorem dX7_keep_54 : decode cX7_keep 54 = .ok (.bipush 13, 2) := by decide +kernel
theorem dX7_keep_56 : decode cX7_keep 56 = .ok (.iaload, 1) := by decide +kernel
theorem dX7_keep_57 : decode cX7_keep 57 = .ok (.ireturn, 1) := by decide +kernel
set_option maxRecDepth 20000 in
theorem ggX7_again_X7_in : GoodIn wsX7_again wsX7_in := goodIn_r _ [8] (by decide +kernel) (by decide +kernel)
set_option maxRecDepth 20000 in
theorem gX7_again_X7_in : GoodIn wsX7_again (va_wsS RX7 61 yX7_in wsX7_in) := goodIn_app (goodIn_of _ (by decide +kernel)) ggX7_again_X7_in
theorem dX7_again_0 : decode cX7_again 0 = .ok (.iload_n 1, 1) := by decide +kernel
theorem dX7_again_1 : decode cX7_again 1 = .ok (.i2l, 1) := by decide +kernel
theorem dX7_again_2 : decode cX7_again 2 = .ok (.lconst 0, 1) := by decide +kernel
theorem dX7_again_3 : decode cX7_again 3 = .ok (.lconst 1, 1) := by decide +kernel
theorem dX7_again_4 : decode cX7_again 4 = .ok (.invokestatic 61, 3) := by decide +kernel
theorem dX7_again_7 : decode cX7_again 7 = .ok (.ifCond .ne 5, 3) := by decide +kernel
theorem dX7_again_10 : decode cX7_again 10 = .ok (.iconst (-1), 1) := by decide +kernel
theorem dX7_again_11 : decode cX7_again 11 = .ok (.ireturn, 1) := by decide +kernel
theorem dX7_again_12 : decode cX7_again 12 = .ok (.aload_n 0, 1) := by decide +kernel
theorem dX7_again_13 : decode cX7_again 13 = .ok (.getfield 52, 3) := by decide +kernel
theorem dX7_again_16 : decode cX7_again 16 = .ok (.iload_n 1, 1) := by decide +kernel
theorem dX7_again_17 : decode cX7_again 17 = .ok (.baload, 1) := by decide +kernel
theorem dX7_again_18 : decode cX7_again 18 = .ok (.ifCond .ne 6, 3) := by decide +kernel
theorem dX7_again_21 : decode cX7_again 21 = .ok (.bipush (-3), 2) := by decide +kernel
theorem dX7_again_23 : decode cX7_again 23 = .ok (.ireturn, 1) := by decide +kernel
theorem dX7_again_24 : decode cX7_again 24 = .ok (.iconst 0, 1) := by decide +kernel
theorem dX7_again_25 : decode cX7_again 25 = .ok (.istore_n 2, 1) := by decide +kernel
theorem dX7_again_26 : decode cX7_again 26 = .ok (.iload_n 2, 1) := by decide +kernel
theorem dX7_again_27 : decode cX7_again 27 = .ok (.bipush 14, 2) := by decide +kernel
theorem dX7_again_29 : decode cX7_again 29 = .ok (.if_icmp .ge 26, 3) := by decide +kernel
theorem dX7_again_32 : decode cX7_again 32 = .ok (.aload_n 0, 1) := by decide +kernel
theorem dX7_again_33 : decode cX7_again 33 = .ok (.getfield 22, 3) := by decide +kernel
theorem dX7_again_36 : decode cX7_again 36 = .ok (.iload_n 2, 1) := by decide +kernel
theorem dX7_again_37 : decode cX7_again 37 = .ok (.aload_n 0, 1) := by decide +kernel
theorem dX7_again_38 : decode cX7_again 38 = .ok (.getfield 56, 3) := by decide +kernel
theorem dX7_again_41 : decode cX7_again 41 = .ok (.bipush 14, 2) := by decide +kernel
theorem dX7_again_43 : decode cX7_again 43 = .ok (.iload_n 1, 1) := by decide +kernel
theorem dX7_again_44 : decode cX7_again 44 = .ok (.imul, 1) := by decide +kernel
theorem dX7_again_45 : decode cX7_again 45 = .ok (.iload_n 2, 1) := by decide +kernel
theorem dX7_again_46 : decode cX7_again 46 = .ok (.iadd, 1) := by decide +kernel
theorem dX7_again_47 : decode cX7_again 47 = .ok (.iaload, 1) := by decide +kernel
theorem dX7_again_48 : decode cX7_again 48 = .ok (.iastore, 1) := by decide +kernel
theorem dX7_again_49 : decode cX7_again 49 = .ok (.iinc 2 1, 3) := by decide +kernel
theorem dX7_again_52 : decode cX7_again 52 = .ok (.goto (-26), 3) := by decide +kernel
theorem dX7_again_55 : decode cX7_again 55 = .ok (.aload_n 0, 1) := by decide +kernel
theorem dX7_again_56 : decode cX7_again 56 = .ok (.iconst 0, 1) := by decide +kernel
theorem dX7_again_57 : decode cX7_again 57 = .ok (.putfield 102, 3) := by decide +kernel
theorem dX7_again_60 : decode cX7_again 60 = .ok (.aload_n 0, 1) := by decide +kernel
theorem dX7_again_61 : decode cX7_again 61 = .ok (.getfield 22, 3) := by decide +kernel
theorem dX7_again_64 : decode cX7_again 64 = .ok (.bipush 13, 2) := by decide +kernel
theorem dX7_again_66 : decode cX7_again 66 = .ok (.iaload, 1) := by decide +kernel
theorem dX7_again_67 : decode cX7_again 67 = .ok (.ireturn, 1) := by decide +kernel
theorem dX7_placesOf_0 : decode cX7_placesOf 0 = .ok (.iconst 0, 1) := by decide +kernel
theorem dX7_placesOf_1 : decode cX7_placesOf 1 = .ok (.istore_n 1, 1) := by decide +kernel
theorem dX7_placesOf_2 : decode cX7_placesOf 2 = .ok (.iconst 0, 1) := by decide +kernel
theorem dX7_placesOf_3 : decode cX7_placesOf 3 = .ok (.istore_n 2, 1) := by decide +kernel
theorem dX7_placesOf_4 : decode cX7_placesOf 4 = .ok (.iload_n 2, 1) := by decide +kernel
theorem dX7_placesOf_5 : decode cX7_placesOf 5 = .ok (.aload_n 0, 1) := by decide +kernel
theorem dX7_placesOf_6 : decode cX7_placesOf 6 = .ok (.getfield 96, 3) := by decide +kernel
theorem dX7_placesOf_9 : decode cX7_placesOf 9 = .ok (.if_icmp .ge 20, 3) := by decide +kernel
theorem dX7_placesOf_12 : decode cX7_placesOf 12 = .ok (.iload_n 1, 1) := by decide +kernel
theorem dX7_placesOf_13 : decode cX7_placesOf 13 = .ok (.iconst 1, 1) := by decide +kernel
theorem dX7_placesOf_14 : decode cX7_placesOf 14 = .ok (.aload_n 0, 1) := by decide +kernel
theorem dX7_placesOf_15 : decode cX7_placesOf 15 = .ok (.getfield 22, 3) := by decide +kernel
theorem dX7_placesOf_18 : decode cX7_placesOf 18 = .ok (.iload_n 2, 1) := by decide +kernel
theorem dX7_placesOf_19 : decode cX7_placesOf 19 = .ok (.iaload, 1) := by decide +kernel
theorem dX7_placesOf_20 : decode cX7_placesOf 20 = .ok (.ishl, 1) := by decide +kernel
theorem dX7_placesOf_21 : decode cX7_placesOf 21 = .ok (.ior, 1) := by decide +kernel
theorem dX7_placesOf_22 : decode cX7_placesOf 22 = .ok (.istore_n 1, 1) := by decide +kernel
theorem dX7_placesOf_23 : decode cX7_placesOf 23 = .ok (.iinc 2 1, 3) := by decide +kernel
theorem dX7_placesOf_26 : decode cX7_placesOf 26 = .ok (.goto (-22), 3) := by decide +kernel
theorem dX7_placesOf_29 : decode cX7_placesOf 29 = .ok (.iload_n 1, 1) := by decide +kernel
theorem dX7_placesOf_30 : decode cX7_placesOf 30 = .ok (.ireturn, 1) := by decide +kernel
theorem dX7_windOfAll_0 : decode cX7_windOfAll 0 = .ok (.iconst 0, 1) := by decide +kernel
theorem dX7_windOfAll_1 : decode cX7_windOfAll 1 = .ok (.istore_n 1, 1) := by decide +kernel
theorem dX7_windOfAll_2 : decode cX7_windOfAll 2 = .ok (.iconst 0, 1) := by decide +kernel
theorem dX7_windOfAll_3 : decode cX7_windOfAll 3 = .ok (.istore_n 2, 1) := by decide +kernel
theorem dX7_windOfAll_4 : decode cX7_windOfAll 4 = .ok (.iload_n 2, 1) := by decide +kernel
theorem dX7_windOfAll_5 : decode cX7_windOfAll 5 = .ok (.aload_n 0, 1) := by decide +kernel
theorem dX7_windOfAll_6 : decode cX7_windOfAll 6 = .ok (.getfield 96, 3) := by decide +kernel
theorem dX7_windOfAll_9 : decode cX7_windOfAll 9 = .ok (.if_icmp .ge 20, 3) := by decide +kernel
theorem dX7_windOfAll_12 : decode cX7_windOfAll 12 = .ok (.iload_n 1, 1) := by decide +kernel
theorem dX7_windOfAll_13 : decode cX7_windOfAll 13 = .ok (.aload_n 0, 1) := by decide +kernel
theorem dX7_windOfAll_14 : decode cX7_windOfAll 14 = .ok (.getfield 22, 3) := by decide +kernel
theorem dX7_windOfAll_17 : decode cX7_windOfAll 17 = .ok (.iconst 5, 1) := by decide +kernel
theorem dX7_windOfAll_18 : decode cX7_windOfAll 18 = .ok (.iload_n 2, 1) := by decide +kernel
theorem dX7_windOfAll_19 : decode cX7_windOfAll 19 = .ok (.iadd, 1) := by decide +kernel
theorem dX7_windOfAll_20 : decode cX7_windOfAll 20 = .ok (.iaload, 1) := by decide +kernel
theorem dX7_windOfAll_21 : decode cX7_windOfAll 21 = .ok (.iadd, 1) := by decide +kernel
theorem dX7_windOfAll_22 : decode cX7_windOfAll 22 = .ok (.istore_n 1, 1) := by decide +kernel
theorem dX7_windOfAll_23 : decode cX7_windOfAll 23 = .ok (.iinc 2 1, 3) := by decide +kernel
theorem dX7_windOfAll_26 : decode cX7_windOfAll 26 = .ok (.goto (-22), 3) := by decide +kernel
theorem dX7_windOfAll_29 : decode cX7_windOfAll 29 = .ok (.iload_n 1, 1) := by decide +kernel
theorem dX7_windOfAll_30 : decode cX7_windOfAll 30 = .ok (.ireturn, 1) := by decide +kernel
set_option maxRecDepth 20000 in
theorem ggX7_count_X7_placesOf : GoodIn wsX7_count wsX7_placesOf := goodIn_r _ [11, 3, 4, 16, 17, 18, 19, 20, 21, 22, 23, 24, 25, 26, 27, 28, 29, 30, 31, 32, 33, 34, 35, 36, 37, 38, 39, 40, 41, 42, 43, 44, 45] (by decide +kernel) (by decide +kernel)
set_option maxRecDepth 20000 in
theorem gX7_count_X7_placesOf : GoodIn wsX7_count (wsV RX7 253 RX7 yX7_placesOf wsX7_placesOf) := goodIn_app (goodIn_of _ (by decide +kernel)) ggX7_count_X7_placesOf
set_option maxRecDepth 20000 in
theorem ggX7_count_X7_windOfAll : GoodIn wsX7_count wsX7_windOfAll := goodIn_r _ [15, 3, 4, 16, 17, 18, 19, 20, 21, 22, 23, 24, 25, 26, 27, 28, 29, 30, 31, 32, 33, 34, 35, 36, 37, 38, 39, 40, 41, 42, 43, 44, 45] (by decide +kernel) (by decide +kernel)
set_option maxRecDepth 20000 in
theorem gX7_count_X7_windOfAll : GoodIn wsX7_count (wsV RX7 256 RX7 yX7_windOfAll wsX7_windOfAll) := goodIn_app (goodIn_of _ (by decide +kernel)) ggX7_count_X7_windOfAll
theorem dX7_count_0 : decode cX7_count 0 = .ok (.iload_n 1, 1) := by decide +kernel
theorem dX7_count_1 : decode cX7_count 1 = .ok (.tableswitch 144 0 10 #[59, 64, 69, 74, 82, 90, 98, 124, 129, 134, 139], 59) := by decide +kernel
theorem dX7_count_60 : decode cX7_count 60 = .ok (.aload_n 0, 1) := by decide +kernel
theorem dX7_count_61 : decode cX7_count 61 = .ok (.getfield 65, 3) := by decide +kernel
theorem dX7_count_64 : decode cX7_count 64 = .ok (.ireturn, 1) := by decide +kernel
theorem dX7_count_65 : decode cX7_count 65 = .ok (.aload_n 0, 1) := by decide +kernel
theorem dX7_count_66 : decode cX7_count 66 = .ok (.getfield 93, 3) := by decide +kernel
theorem dX7_count_69 : decode cX7_count 69 = .ok (.ireturn, 1) := by decide +kernel
theorem dX7_count_70 : decode cX7_count 70 = .ok (.aload_n 0, 1) := by decide +kernel
theorem dX7_count_71 : decode cX7_count 71 = .ok (.getfield 96, 3) := by decide +kernel
theorem dX7_count_74 : decode cX7_count 74 = .ok (.ireturn, 1) := by decide +kernel
theorem dX7_count_75 : decode cX7_count 75 = .ok (.aload_n 0, 1) := by decide +kernel
theorem dX7_count_76 : decode cX7_count 76 = .ok (.getfield 22, 3) := by decide +kernel
theorem dX7_count_79 : decode cX7_count 79 = .ok (.bipush 13, 2) := by decide +kernel
theorem dX7_count_81 : decode cX7_count 81 = .ok (.iaload, 1) := by decide +kernel
theorem dX7_count_82 : decode cX7_count 82 = .ok (.ireturn, 1) := by decide +kernel
theorem dX7_count_83 : decode cX7_count 83 = .ok (.aload_n 0, 1) := by decide +kernel
theorem dX7_count_84 : decode cX7_count 84 = .ok (.getfield 22, 3) := by decide +kernel
theorem dX7_count_87 : decode cX7_count 87 = .ok (.bipush 12, 2) := by decide +kernel
theorem dX7_count_89 : decode cX7_count 89 = .ok (.iaload, 1) := by decide +kernel
theorem dX7_count_90 : decode cX7_count 90 = .ok (.ireturn, 1) := by decide +kernel
theorem dX7_count_91 : decode cX7_count 91 = .ok (.aload_n 0, 1) := by decide +kernel
theorem dX7_count_92 : decode cX7_count 92 = .ok (.getfield 22, 3) := by decide +kernel
theorem dX7_count_95 : decode cX7_count 95 = .ok (.bipush 10, 2) := by decide +kernel
theorem dX7_count_97 : decode cX7_count 97 = .ok (.iaload, 1) := by decide +kernel
theorem dX7_count_98 : decode cX7_count 98 = .ok (.ireturn, 1) := by decide +kernel
theorem dX7_count_99 : decode cX7_count 99 = .ok (.aload_n 0, 1) := by decide +kernel
theorem dX7_count_100 : decode cX7_count 100 = .ok (.getfield 22, 3) := by decide +kernel
theorem dX7_count_103 : decode cX7_count 103 = .ok (.bipush 11, 2) := by decide +kernel
theorem dX7_count_105 : decode cX7_count 105 = .ok (.iaload, 1) := by decide +kernel
theorem dX7_count_106 : decode cX7_count 106 = .ok (.ifCond .ne 7, 3) := by decide +kernel
theorem dX7_count_109 : decode cX7_count 109 = .ok (.iconst 0, 1) := by decide +kernel
theorem dX7_count_110 : decode cX7_count 110 = .ok (.goto 14, 3) := by decide +kernel
theorem dX7_count_113 : decode cX7_count 113 = .ok (.iconst 1, 1) := by decide +kernel
theorem dX7_count_114 : decode cX7_count 114 = .ok (.aload_n 0, 1) := by decide +kernel
theorem dX7_count_115 : decode cX7_count 115 = .ok (.getfield 22, 3) := by decide +kernel
theorem dX7_count_118 : decode cX7_count 118 = .ok (.bipush 11, 2) := by decide +kernel
theorem dX7_count_120 : decode cX7_count 120 = .ok (.iaload, 1) := by decide +kernel
theorem dX7_count_121 : decode cX7_count 121 = .ok (.iconst 1, 1) := by decide +kernel
theorem dX7_count_122 : decode cX7_count 122 = .ok (.isub, 1) := by decide +kernel
theorem dX7_count_123 : decode cX7_count 123 = .ok (.ishl, 1) := by decide +kernel
theorem dX7_count_124 : decode cX7_count 124 = .ok (.ireturn, 1) := by decide +kernel
theorem dX7_count_125 : decode cX7_count 125 = .ok (.aload_n 0, 1) := by decide +kernel
theorem dX7_count_126 : decode cX7_count 126 = .ok (.invokevirtual 253, 3) := by decide +kernel
theorem dX7_count_129 : decode cX7_count 129 = .ok (.ireturn, 1) := by decide +kernel
theorem dX7_count_130 : decode cX7_count 130 = .ok (.aload_n 0, 1) := by decide +kernel
theorem dX7_count_131 : decode cX7_count 131 = .ok (.invokevirtual 256, 3) := by decide +kernel
theorem dX7_count_134 : decode cX7_count 134 = .ok (.ireturn, 1) := by decide +kernel
theorem dX7_count_135 : decode cX7_count 135 = .ok (.aload_n 0, 1) := by decide +kernel
theorem dX7_count_136 : decode cX7_count 136 = .ok (.getfield 102, 3) := by decide +kernel
theorem dX7_count_139 : decode cX7_count 139 = .ok (.ireturn, 1) := by decide +kernel
theorem dX7_count_140 : decode cX7_count 140 = .ok (.aload_n 0, 1) := by decide +kernel
theorem dX7_count_141 : decode cX7_count 141 = .ok (.getfield 209, 3) := by decide +kernel
theorem dX7_count_144 : decode cX7_count 144 = .ok (.ireturn, 1) := by decide +kernel
theorem dX7_count_145 : decode cX7_count 145 = .ok (.bipush (-2), 2) := by decide +kernel
theorem dX7_count_147 : decode cX7_count 147 = .ok (.ireturn, 1) := by decide +kernel
theorem dJ6_bitCount_0f7a4_0 : decode cJ6_bitCount_0f7a4 0 = .ok (.iload_n 0, 1) := by decide +kernel
theorem dJ6_bitCount_0f7a4_1 : decode cJ6_bitCount_0f7a4 1 = .ok (.iload_n 0, 1) := by decide +kernel
theorem dJ6_bitCount_0f7a4_2 : decode cJ6_bitCount_0f7a4 2 = .ok (.iconst 1, 1) := by decide +kernel
theorem dJ6_bitCount_0f7a4_3 : decode cJ6_bitCount_0f7a4 3 = .ok (.iushr, 1) := by decide +kernel
theorem dJ6_bitCount_0f7a4_4 : decode cJ6_bitCount_0f7a4 4 = .ok (.ldc_w 265, 3) := by decide +kernel
theorem dJ6_bitCount_0f7a4_7 : decode cJ6_bitCount_0f7a4 7 = .ok (.iand, 1) := by decide +kernel
theorem dJ6_bitCount_0f7a4_8 : decode cJ6_bitCount_0f7a4 8 = .ok (.isub, 1) := by decide +kernel
theorem dJ6_bitCount_0f7a4_9 : decode cJ6_bitCount_0f7a4 9 = .ok (.istore_n 0, 1) := by decide +kernel
theorem dJ6_bitCount_0f7a4_10 : decode cJ6_bitCount_0f7a4 10 = .ok (.iload_n 0, 1) := by decide +kernel
theorem dJ6_bitCount_0f7a4_11 : decode cJ6_bitCount_0f7a4 11 = .ok (.ldc_w 266, 3) := by decide +kernel
theorem dJ6_bitCount_0f7a4_14 : decode cJ6_bitCount_0f7a4 14 = .ok (.iand, 1) := by decide +kernel
theorem dJ6_bitCount_0f7a4_15 : decode cJ6_bitCount_0f7a4 15 = .ok (.iload_n 0, 1) := by decide +kernel
theorem dJ6_bitCount_0f7a4_16 : decode cJ6_bitCount_0f7a4 16 = .ok (.iconst 2, 1) := by decide +kernel
theorem dJ6_bitCount_0f7a4_17 : decode cJ6_bitCount_0f7a4 17 = .ok (.iushr, 1) := by decide +kernel
theorem dJ6_bitCount_0f7a4_18 : decode cJ6_bitCount_0f7a4 18 = .ok (.ldc_w 266, 3) := by decide +kernel
theorem dJ6_bitCount_0f7a4_21 : decode cJ6_bitCount_0f7a4 21 = .ok (.iand, 1) := by decide +kernel
theorem dJ6_bitCount_0f7a4_22 : decode cJ6_bitCount_0f7a4 22 = .ok (.iadd, 1) := by decide +kernel
theorem dJ6_bitCount_0f7a4_23 : decode cJ6_bitCount_0f7a4 23 = .ok (.istore_n 0, 1) := by decide +kernel
theorem dJ6_bitCount_0f7a4_24 : decode cJ6_bitCount_0f7a4 24 = .ok (.iload_n 0, 1) := by decide +kernel
theorem dJ6_bitCount_0f7a4_25 : decode cJ6_bitCount_0f7a4 25 = .ok (.iload_n 0, 1) := by decide +kernel
theorem dJ6_bitCount_0f7a4_26 : decode cJ6_bitCount_0f7a4 26 = .ok (.iconst 4, 1) := by decide +kernel
theorem dJ6_bitCount_0f7a4_27 : decode cJ6_bitCount_0f7a4 27 = .ok (.iushr, 1) := by decide +kernel
theorem dJ6_bitCount_0f7a4_28 : decode cJ6_bitCount_0f7a4 28 = .ok (.iadd, 1) := by decide +kernel
theorem dJ6_bitCount_0f7a4_29 : decode cJ6_bitCount_0f7a4 29 = .ok (.ldc_w 267, 3) := by decide +kernel
theorem dJ6_bitCount_0f7a4_32 : decode cJ6_bitCount_0f7a4 32 = .ok (.iand, 1) := by decide +kernel
theorem dJ6_bitCount_0f7a4_33 : decode cJ6_bitCount_0f7a4 33 = .ok (.istore_n 0, 1) := by decide +kernel
theorem dJ6_bitCount_0f7a4_34 : decode cJ6_bitCount_0f7a4 34 = .ok (.iload_n 0, 1) := by decide +kernel
theorem dJ6_bitCount_0f7a4_35 : decode cJ6_bitCount_0f7a4 35 = .ok (.iload_n 0, 1) := by decide +kernel
theorem dJ6_bitCount_0f7a4_36 : decode cJ6_bitCount_0f7a4 36 = .ok (.bipush 8, 2) := by decide +kernel
theorem dJ6_bitCount_0f7a4_38 : decode cJ6_bitCount_0f7a4 38 = .ok (.iushr, 1) := by decide +kernel
theorem dJ6_bitCount_0f7a4_39 : decode cJ6_bitCount_0f7a4 39 = .ok (.iadd, 1) := by decide +kernel
theorem dJ6_bitCount_0f7a4_40 : decode cJ6_bitCount_0f7a4 40 = .ok (.istore_n 0, 1) := by decide +kernel
theorem dJ6_bitCount_0f7a4_41 : decode cJ6_bitCount_0f7a4 41 = .ok (.iload_n 0, 1) := by decide +kernel
theorem dJ6_bitCount_0f7a4_42 : decode cJ6_bitCount_0f7a4 42 = .ok (.iload_n 0, 1) := by decide +kernel
theorem dJ6_bitCount_0f7a4_43 : decode cJ6_bitCount_0f7a4 43 = .ok (.bipush 16, 2) := by decide +kernel
theorem dJ6_bitCount_0f7a4_45 : decode cJ6_bitCount_0f7a4 45 = .ok (.iushr, 1) := by decide +kernel
theorem dJ6_bitCount_0f7a4_46 : decode cJ6_bitCount_0f7a4 46 = .ok (.iadd, 1) := by decide +kernel
theorem dJ6_bitCount_0f7a4_47 : decode cJ6_bitCount_0f7a4 47 = .ok (.istore_n 0, 1) := by decide +kernel
theorem dJ6_bitCount_0f7a4_48 : decode cJ6_bitCount_0f7a4 48 = .ok (.iload_n 0, 1) := by decide +kernel
theorem dJ6_bitCount_0f7a4_49 : decode cJ6_bitCount_0f7a4 49 = .ok (.bipush 63, 2) := by decide +kernel
theorem dJ6_bitCount_0f7a4_51 : decode cJ6_bitCount_0f7a4 51 = .ok (.iand, 1) := by decide +kernel
theorem dJ6_bitCount_0f7a4_52 : decode cJ6_bitCount_0f7a4 52 = .ok (.ireturn, 1) := by decide +kernel
theorem dJ9_max_7cf53_0 : decode cJ9_max_7cf53 0 = .ok (.iload_n 0, 1) := by decide +kernel
theorem dJ9_max_7cf53_1 : decode cJ9_max_7cf53 1 = .ok (.iload_n 1, 1) := by decide +kernel
theorem dJ9_max_7cf53_2 : decode cJ9_max_7cf53 2 = .ok (.if_icmp .lt 7, 3) := by decide +kernel
theorem dJ9_max_7cf53_5 : decode cJ9_max_7cf53 5 = .ok (.iload_n 0, 1) := by decide +kernel
theorem dJ9_max_7cf53_6 : decode cJ9_max_7cf53 6 = .ok (.goto 4, 3) := by decide +kernel
theorem dJ9_max_7cf53_9 : decode cJ9_max_7cf53 9 = .ok (.iload_n 1, 1) := by decide +kernel
theorem dJ9_max_7cf53_10 : decode cJ9_max_7cf53 10 = .ok (.ireturn, 1) := by decide +kernel
theorem dJ9_min_7cf53_0 : decode cJ9_min_7cf53 0 = .ok (.iload_n 0, 1) := by decide +kernel
theorem dJ9_min_7cf53_1 : decode cJ9_min_7cf53 1 = .ok (.iload_n 1, 1) := by decide +kernel
theorem dJ9_min_7cf53_2 : decode cJ9_min_7cf53 2 = .ok (.if_icmp .gt 7, 3) := by decide +kernel
theorem dJ9_min_7cf53_5 : decode cJ9_min_7cf53 5 = .ok (.iload_n 0, 1) := by decide +kernel
theorem dJ9_min_7cf53_6 : decode cJ9_min_7cf53 6 = .ok (.goto 4, 3) := by decide +kernel
theorem dJ9_min_7cf53_9 : decode cJ9_min_7cf53 9 = .ok (.iload_n 1, 1) := by decide +kernel
theorem dJ9_min_7cf53_10 : decode cJ9_min_7cf53 10 = .ok (.ireturn, 1) := by decide +kernel
theorem dJ7_fill_53178_0 : decode cJ7_fill_53178 0 = .ok (.iconst 0, 1) := by decide +kernel
theorem dJ7_fill_53178_1 : decode cJ7_fill_53178 1 = .ok (.istore_n 2, 1) := by decide +kernel
theorem dJ7_fill_53178_2 : decode cJ7_fill_53178 2 = .ok (.aload_n 0, 1) := by decide +kernel
theorem dJ7_fill_53178_3 : decode cJ7_fill_53178 3 = .ok (.arraylength, 1) := by decide +kernel
theorem dJ7_fill_53178_4 : decode cJ7_fill_53178 4 = .ok (.istore_n 3, 1) := by decide +kernel
theorem dJ7_fill_53178_5 : decode cJ7_fill_53178 5 = .ok (.iload_n 2, 1) := by decide +kernel
theorem dJ7_fill_53178_6 : decode cJ7_fill_53178 6 = .ok (.iload_n 3, 1) := by decide +kernel
theorem dJ7_fill_53178_7 : decode cJ7_fill_53178 7 = .ok (.if_icmp .ge 13, 3) := by decide +kernel
theorem dJ7_fill_53178_10 : decode cJ7_fill_53178 10 = .ok (.aload_n 0, 1) := by decide +kernel
theorem dJ7_fill_53178_11 : decode cJ7_fill_53178 11 = .ok (.iload_n 2, 1) := by decide +kernel
theorem dJ7_fill_53178_12 : decode cJ7_fill_53178 12 = .ok (.iload_n 1, 1) := by decide +kernel
theorem dJ7_fill_53178_13 : decode cJ7_fill_53178 13 = .ok (.iastore, 1) := by decide +kernel
theorem dJ7_fill_53178_14 : decode cJ7_fill_53178 14 = .ok (.iinc 2 1, 3) := by decide +kernel
theorem dJ7_fill_53178_17 : decode cJ7_fill_53178 17 = .ok (.goto (-12), 3) := by decide +kernel
theorem dJ7_fill_53178_20 : decode cJ7_fill_53178 20 = .ok (.return_, 1) := by decide +kernel
set_option maxRecDepth 20000 in
theorem ggL_law_X6_init : GoodIn wsL_law wsX6_init := goodIn_r _ [9, 10, 11, 12, 13, 14, 15, 16, 17, 18, 19, 20, 21, 22, 23, 24, 25, 26, 27, 28, 29, 30, 31, 32, 33, 34, 35, 36, 37, 38, 39, 40, 41, 42, 43, 44, 45, 46, 47, 48, 49, 50, 51, 52, 53, 54, 55, 56, 57, 58, 59, 60, 61, 62, 63, 64, 65, 66, 67, 68, 69, 70, 71, 72, 73, 74, 75, 76, 77, 78, 79, 80, 81, 82, 83, 84, 85, 86, 87, 916, 917, 873, 874, 875, 876, 877, 878, 879, 880, 881, 882, 883, 884, 885, 918, 919, 920, 921, 922, 923, 924, 925, 926, 927, 928, 929, 930, 931, 932, 933, 934, 935, 936, 937, 938, 939, 940, 941, 942, 943, 944, 945, 946, 947, 948] (by decide +kernel) (by decide +kernel)
set_option maxRecDepth 20000 in
theorem gL_law_X6_init : GoodIn wsL_law (wsX6_init) := ggL_law_X6_init
set_option maxRecDepth 20000 in
theorem ggL_law_X7_init : GoodIn wsL_law wsX7_init := goodIn_r _ [90, 91, 11, 12, 42, 92, 93, 94, 95, 96, 97, 98, 99, 100, 101, 102, 103, 104, 105, 32, 106, 107, 886, 887, 888, 889, 890, 891, 892, 893, 894, 895, 896, 897, 898, 899, 900, 901, 902, 903, 904, 905, 906, 907, 908, 909, 910, 911, 912, 913, 914, 915] (by decide +kernel) (by decide +kernel)
set_option maxRecDepth 20000 in
theorem gL_law_X7_init : GoodIn wsL_law (wsX7_init) := ggL_law_X7_init
set_option maxRecDepth 20000 in
theorem ggL_law_X6_write : GoodIn wsL_law wsX6_write := goodIn_r _ [111, 16, 112, 113, 114, 15, 115, 116, 48, 873, 874, 875, 876, 877, 878, 879, 880, 881, 882, 883, 884, 885, 916, 917] (by decide +kernel) (by decide +kernel)
set_option maxRecDepth 20000 in
theorem gL_law_X6_write : GoodIn wsL_law (wsV RL 13 RX6 yX6_write wsX6_write) := goodIn_app (goodIn_of _ (by decide +kernel)) ggL_law_X6_write
set_option maxRecDepth 20000 in
theorem ggL_law_X7_write : GoodIn wsL_law wsX7_write := goodIn_r _ [120, 121, 122, 99, 123, 124, 5, 125, 886, 887, 888, 889, 890, 891, 892, 893, 894, 895, 896, 897, 898, 899, 900, 901, 902, 903, 904, 905, 906, 907, 908, 909, 910, 911, 912, 913, 914, 915] (by decide +kernel) (by decide +kernel)
set_option maxRecDepth 20000 in
theorem gL_law_X7_write : GoodIn wsL_law (wsV RL 17 RX7 yX7_write wsX7_write) := goodIn_app (goodIn_of _ (by decide +kernel)) ggL_law_X7_write
set_option maxRecDepth 20000 in
theorem ggL_law_X6_wipe : GoodIn wsL_law wsX6_wipe := goodIn_r _ [129, 16, 130, 873, 874, 875, 876, 877, 878, 879, 880, 881, 882, 883, 884, 885, 916, 917] (by decide +kernel) (by decide +kernel)
set_option maxRecDepth 20000 in
theorem gL_law_X6_wipe : GoodIn wsL_law (wsV RL 18 RX6 yX6_wipe wsX6_wipe) := goodIn_app (goodIn_of _ (by decide +kernel)) ggL_law_X6_wipe
set_option maxRecDepth 20000 in
theorem ggL_law_X7_wipe : GoodIn wsL_law wsX7_wipe := goodIn_r _ [134, 122, 886, 887, 888, 889, 890, 891, 892, 893, 894, 895, 896, 897, 898, 899, 900, 901, 902, 903, 904, 905, 906, 907, 908, 909, 910, 911, 912, 913, 914, 915] (by decide +kernel) (by decide +kernel)
set_option maxRecDepth 20000 in
theorem gL_law_X7_wipe : GoodIn wsL_law (wsV RL 22 RX7 yX7_wipe wsX7_wipe) := goodIn_app (goodIn_of _ (by decide +kernel)) ggL_law_X7_wipe
set_option maxRecDepth 20000 in
theorem ggL_law_X6_fault : GoodIn wsL_law wsX6_fault := goodIn_r _ [138, 16, 20, 139, 140, 141, 15, 142, 116, 48, 143, 144, 145, 19, 146, 147, 148, 149, 150, 151, 152, 153, 154, 155, 156, 157, 158, 159, 160, 161, 162, 163, 164, 165, 166, 167, 168, 169, 170, 52, 53, 171, 172, 173, 174, 175, 176, 177, 178, 179, 180, 181, 182, 54, 55, 56, 873, 874, 875, 876, 877, 878, 879, 880, 881, 882, 883, 884, 885, 916, 917, 918, 919, 920, 921, 922, 923, 924] (by decide +kernel) (by decide +kernel)
set_option maxRecDepth 20000 in
theorem gL_law_X6_fault : GoodIn wsL_law (wsV RL 23 RX6 yX6_fault wsX6_fault) := goodIn_app (goodIn_of _ (by decide +kernel)) ggL_law_X6_fault
set_option maxRecDepth 20000 in
theorem ggL_law_X7_fault : GoodIn wsL_law wsX7_fault := goodIn_r _ [186, 187, 188, 189, 5, 190, 191, 192, 193, 194, 122, 99, 195, 196, 197, 198, 97, 98, 199, 200, 201, 202, 123, 124, 125, 886, 887, 888, 889, 890, 891, 892, 893, 894, 895, 896, 897, 898, 899, 900, 901, 902, 903, 904, 905, 906, 907, 908, 909, 910, 911, 912, 913, 914, 915] (by decide +kernel) (by decide +kernel)
set_option maxRecDepth 20000 in
theorem gL_law_X7_fault : GoodIn wsL_law (wsV RL 26 RX7 yX7_fault wsX7_fault) := goodIn_app (goodIn_of _ (by decide +kernel)) ggL_law_X7_fault
set_option maxRecDepth 20000 in
theorem ggL_law_X6_road : GoodIn wsL_law wsX6_road := goodIn_r _ [206, 16, 20, 21, 25, 30, 207, 33, 208, 209, 139, 140, 141, 15, 142, 116, 48, 143, 144, 145, 19, 146, 147, 148, 149, 150, 151, 152, 153, 154, 155, 156, 157, 158, 159, 160, 161, 162, 163, 164, 165, 166, 167, 168, 169, 170, 52, 53, 171, 172, 173, 174, 175, 176, 177, 178, 179, 180, 181, 182, 54, 55, 56, 210, 211, 212, 24, 213, 63, 214, 61, 215, 62, 216, 217, 218, 219, 220, 221, 222, 223, 224, 873, 874, 875, 876, 877, 878, 879, 880, 881, 882, 883, 884, 885, 932, 933, 934, 918, 919, 920, 921, 922, 923, 924, 916, 917, 925, 926, 927, 928, 929, 930, 931] (by decide +kernel) (by decide +kernel)
set_option maxRecDepth 20000 in
theorem gL_law_X6_road : GoodIn wsL_law (wsV RL 27 RX6 yX6_road wsX6_road) := goodIn_app (goodIn_of _ (by decide +kernel)) ggL_law_X6_road
set_option maxRecDepth 20000 in
theorem ggL_law_X7_road : GoodIn wsL_law wsX7_road := goodIn_r _ [228, 193, 229, 194, 230, 96, 92, 97, 93, 98, 94, 95, 231, 106, 187, 188, 189, 5, 190, 191, 192, 122, 99, 195, 196, 197, 198, 199, 200, 201, 202, 123, 124, 125, 232, 233, 234, 235, 886, 887, 888, 889, 890, 891, 892, 893, 894, 895, 896, 897, 898, 899, 900, 901, 902, 903, 904, 905, 906, 907, 908, 909, 910, 911, 912, 913, 914, 915] (by decide +kernel) (by decide +kernel)
set_option maxRecDepth 20000 in
theorem gL_law_X7_road : GoodIn wsL_law (wsV RL 30 RX7 yX7_road wsX7_road) := goodIn_app (goodIn_of _ (by decide +kernel)) ggL_law_X7_road
set_option maxRecDepth 20000 in
theorem ggL_law_X6_pleat : GoodIn wsL_law wsX6_pleat := goodIn_r _ [239, 21, 240, 241, 25, 242, 243, 244, 245, 246, 19, 247, 147, 248, 249, 250, 24, 251, 218, 63, 219, 217, 252, 253, 254, 255, 53, 52, 873, 874, 875, 876, 877, 878, 879, 880, 881, 882, 883, 884, 885, 918, 919, 920, 921, 922, 923, 924, 925, 926, 927, 928, 929, 930, 931] (by decide +kernel) (by decide +kernel)
set_option maxRecDepth 20000 in
theorem gL_law_X6_pleat : GoodIn wsL_law (wsV RL 31 RX6 yX6_pleat wsX6_pleat) := goodIn_app (goodIn_of _ (by decide +kernel)) ggL_law_X6_pleat
set_option maxRecDepth 20000 in
theorem ggL_law_X7_pleat : GoodIn wsL_law wsX7_pleat := goodIn_r _ [259, 92, 93, 96, 260, 261, 262, 5, 263, 229, 123, 124, 125, 264, 265, 266, 267, 268, 269, 270, 271, 272, 273, 274, 886, 887, 888, 889, 890, 891, 892, 893, 894, 895, 896, 897, 898, 899, 900, 901, 902, 903, 904, 905, 906, 907, 908, 909, 910, 911, 912, 913, 914, 915] (by decide +kernel) (by decide +kernel)
set_option maxRecDepth 20000 in
theorem gL_law_X7_pleat : GoodIn wsL_law (wsV RL 35 RX7 yX7_pleat wsX7_pleat) := goodIn_app (goodIn_of _ (by decide +kernel)) ggL_law_X7_pleat
set_option maxRecDepth 20000 in
theorem ggL_law_X6_traveller : GoodIn wsL_law wsX6_traveller := goodIn_r _ [278, 21, 25, 279, 280, 281, 282, 283, 284, 285, 19, 286, 148, 287, 288, 289, 24, 290, 63, 291, 292, 293, 294, 295, 61, 296, 245, 246, 247, 147, 297, 249, 250, 251, 218, 219, 217, 252, 253, 254, 255, 53, 52, 298, 299, 300, 873, 874, 875, 876, 877, 878, 879, 880, 881, 882, 883, 884, 885, 925, 926, 927, 928, 929, 930, 931, 918, 919, 920, 921, 922, 923, 924] (by decide +kernel) (by decide +kernel)
set_option maxRecDepth 20000 in
theorem gL_law_X6_traveller : GoodIn wsL_law (wsV RL 36 RX6 yX6_traveller wsX6_traveller) := goodIn_app (goodIn_of _ (by decide +kernel)) ggL_law_X6_traveller
set_option maxRecDepth 20000 in
theorem ggL_law_X7_traveller : GoodIn wsL_law wsX7_traveller := goodIn_r _ [304, 96, 94, 95, 305, 306, 307, 5, 308, 230, 123, 124, 125, 309, 310, 311, 312, 313, 314, 315, 316, 260, 261, 262, 263, 229, 317, 318, 319, 320, 264, 265, 266, 267, 268, 93, 92, 269, 270, 271, 272, 273, 274, 321, 322, 323, 886, 887, 888, 889, 890, 891, 892, 893, 894, 895, 896, 897, 898, 899, 900, 901, 902, 903, 904, 905, 906, 907, 908, 909, 910, 911, 912, 913, 914, 915] (by decide +kernel) (by decide +kernel)
set_option maxRecDepth 20000 in
theorem gL_law_X7_traveller : GoodIn wsL_law (wsV RL 39 RX7 yX7_traveller wsX7_traveller) := goodIn_app (goodIn_of _ (by decide +kernel)) ggL_law_X7_traveller
set_option maxRecDepth 20000 in
theorem ggL_law_X6_step : GoodIn wsL_law wsX6_step := goodIn_r _ [327, 21, 25, 30, 279, 283, 284, 285, 19, 286, 148, 328, 329, 330, 24, 331, 63, 62, 332, 333, 288, 289, 290, 291, 292, 293, 294, 295, 61, 296, 245, 246, 247, 147, 297, 249, 250, 251, 218, 219, 217, 252, 253, 254, 255, 53, 52, 298, 299, 300, 334, 335, 336, 29, 337, 69, 338, 339, 340, 176, 177, 178, 341, 342, 343, 344, 220, 345, 346, 347, 348, 349, 216, 873, 874, 875, 876, 877, 878, 879, 880, 881, 882, 883, 884, 885, 925, 926, 927, 928, 929, 930, 931, 918, 919, 920, 921, 922, 923, 924, 932, 933, 934] (by decide +kernel) (by decide +kernel)
set_option maxRecDepth 20000 in
theorem gL_law_X6_step : GoodIn wsL_law (wsV RL 40 RX6 yX6_step wsX6_step) := goodIn_app (goodIn_of _ (by decide +kernel)) ggL_law_X6_step
set_option maxRecDepth 20000 in
theorem ggL_law_X7_step : GoodIn wsL_law wsX7_step := goodIn_r _ [353, 96, 305, 306, 307, 5, 308, 230, 123, 124, 125, 354, 355, 356, 357, 313, 314, 315, 316, 260, 261, 262, 263, 229, 317, 318, 319, 320, 95, 264, 265, 266, 267, 268, 93, 92, 269, 270, 271, 272, 273, 274, 321, 322, 323, 358, 359, 360, 361, 100, 362, 231, 363, 364, 365, 366, 94, 886, 887, 888, 889, 890, 891, 892, 893, 894, 895, 896, 897, 898, 899, 900, 901, 902, 903, 904, 905, 906, 907, 908, 909, 910, 911, 912, 913, 914, 915] (by decide +kernel) (by decide +kernel)
set_option maxRecDepth 20000 in
theorem gL_law_X7_step : GoodIn wsL_law (wsV RL 44 RX7 yX7_step wsX7_step) := goodIn_app (goodIn_of _ (by decide +kernel)) ggL_law_X7_step
set_option maxRecDepth 20000 in
theorem ggL_law_X6_rest : GoodIn wsL_law wsX6_rest := goodIn_r _ [370, 21, 30, 25, 282, 283, 284, 285, 19, 286, 148, 334, 335, 336, 29, 337, 69, 338, 339, 340, 176, 177, 178, 341, 342, 343, 24, 344, 61, 62, 217, 218, 219, 220, 371, 372, 373, 374, 63, 216, 375, 376, 377, 378, 379, 380, 381, 873, 874, 875, 876, 877, 878, 879, 880, 881, 882, 883, 884, 885, 925, 926, 927, 928, 929, 930, 931, 918, 919, 920, 921, 922, 923, 924, 932, 933, 934] (by decide +kernel) (by decide +kernel)
set_option maxRecDepth 20000 in
theorem gL_law_X6_rest : GoodIn wsL_law (wsV RL 45 RX6 yX6_rest wsX6_rest) := goodIn_app (goodIn_of _ (by decide +kernel)) ggL_law_X6_rest
set_option maxRecDepth 20000 in
theorem ggL_law_X7_rest : GoodIn wsL_law wsX7_rest := goodIn_r _ [385, 96, 305, 306, 307, 5, 308, 230, 123, 124, 125, 358, 359, 360, 361, 100, 362, 231, 386, 387, 388, 389, 390, 391, 392, 393, 94, 272, 273, 274, 886, 887, 888, 889, 890, 891, 892, 893, 894, 895, 896, 897, 898, 899, 900, 901, 902, 903, 904, 905, 906, 907, 908, 909, 910, 911, 912, 913, 914, 915] (by decide +kernel) (by decide +kernel)
set_option maxRecDepth 20000 in
theorem gL_law_X7_rest : GoodIn wsL_law (wsV RL 48 RX7 yX7_rest wsX7_rest) := goodIn_app (goodIn_of _ (by decide +kernel)) ggL_law_X7_rest
set_option maxRecDepth 20000 in
theorem ggL_law_X6_grease : GoodIn wsL_law wsX6_grease := goodIn_r _ [397, 21, 25, 30, 244, 245, 246, 19, 247, 147, 398, 399, 400, 24, 401, 63, 217, 296, 334, 335, 336, 29, 337, 69, 338, 339, 340, 176, 177, 178, 341, 342, 343, 344, 61, 62, 218, 219, 220, 402, 403, 404, 405, 248, 249, 250, 251, 252, 253, 254, 255, 53, 52, 873, 874, 875, 876, 877, 878, 879, 880, 881, 882, 883, 884, 885, 918, 919, 920, 921, 922, 923, 924, 925, 926, 927, 928, 929, 930, 931, 932, 933, 934] (by decide +kernel) (by decide +kernel)
set_option maxRecDepth 20000 in
theorem gL_law_X6_grease : GoodIn wsL_law (wsV RL 49 RX6 yX6_grease wsX6_grease) := goodIn_app (goodIn_of _ (by decide +kernel)) ggL_law_X6_grease
set_option maxRecDepth 20000 in
theorem ggL_law_X7_grease : GoodIn wsL_law wsX7_grease := goodIn_r _ [409, 96, 260, 261, 262, 5, 263, 229, 123, 124, 125, 269, 270, 271, 358, 359, 360, 361, 100, 362, 231, 264, 265, 266, 267, 268, 93, 92, 272, 273, 274, 886, 887, 888, 889, 890, 891, 892, 893, 894, 895, 896, 897, 898, 899, 900, 901, 902, 903, 904, 905, 906, 907, 908, 909, 910, 911, 912, 913, 914, 915] (by decide +kernel) (by decide +kernel)
set_option maxRecDepth 20000 in
theorem gL_law_X7_grease : GoodIn wsL_law (wsV RL 52 RX7 yX7_grease wsX7_grease) := goodIn_app (goodIn_of _ (by decide +kernel)) ggL_law_X7_grease
set_option maxRecDepth 20000 in
theorem ggL_law_X6_freeze : GoodIn wsL_law wsX6_freeze := goodIn_r _ [413, 25, 30, 414, 415, 416, 417, 24, 418, 219, 334, 335, 336, 29, 337, 69, 338, 339, 340, 176, 177, 178, 341, 342, 343, 344, 61, 62, 217, 218, 220, 873, 874, 875, 876, 877, 878, 879, 880, 881, 882, 883, 884, 885, 925, 926, 927, 928, 929, 930, 931, 932, 933, 934] (by decide +kernel) (by decide +kernel)
set_option maxRecDepth 20000 in
theorem gL_law_X6_freeze : GoodIn wsL_law (wsV RL 53 RX6 yX6_freeze wsX6_freeze) := goodIn_app (goodIn_of _ (by decide +kernel)) ggL_law_X6_freeze
set_option maxRecDepth 20000 in
theorem ggL_law_X7_freeze : GoodIn wsL_law wsX7_freeze := goodIn_r _ [422, 96, 358, 359, 360, 5, 361, 100, 362, 231, 886, 887, 888, 889, 890, 891, 892, 893, 894, 895, 896, 897, 898, 899, 900, 901, 902, 903, 904, 905, 906, 907, 908, 909, 910, 911, 912, 913, 914, 915] (by decide +kernel) (by decide +kernel)
set_option maxRecDepth 20000 in
theorem gL_law_X7_freeze : GoodIn wsL_law (wsV RL 56 RX7 yX7_freeze wsX7_freeze) := goodIn_app (goodIn_of _ (by decide +kernel)) ggL_law_X7_freeze
set_option maxRecDepth 20000 in
theorem ggL_law_X6_thaw : GoodIn wsL_law wsX6_thaw := goodIn_r _ [426, 25, 414, 30, 334, 335, 336, 29, 337, 69, 338, 339, 340, 176, 177, 178, 341, 342, 343, 24, 344, 61, 62, 217, 218, 219, 220, 873, 874, 875, 876, 877, 878, 879, 880, 881, 882, 883, 884, 885, 925, 926, 927, 928, 929, 930, 931, 932, 933, 934] (by decide +kernel) (by decide +kernel)
set_option maxRecDepth 20000 in
theorem gL_law_X6_thaw : GoodIn wsL_law (wsV RL 57 RX6 yX6_thaw wsX6_thaw) := goodIn_app (goodIn_of _ (by decide +kernel)) ggL_law_X6_thaw
set_option maxRecDepth 20000 in
theorem ggL_law_X7_thaw : GoodIn wsL_law wsX7_thaw := goodIn_r _ [430, 96, 358, 359, 360, 5, 361, 100, 362, 231, 886, 887, 888, 889, 890, 891, 892, 893, 894, 895, 896, 897, 898, 899, 900, 901, 902, 903, 904, 905, 906, 907, 908, 909, 910, 911, 912, 913, 914, 915] (by decide +kernel) (by decide +kernel)
set_option maxRecDepth 20000 in
theorem gL_law_X7_thaw : GoodIn wsL_law (wsV RL 60 RX7 yX7_thaw wsX7_thaw) := goodIn_app (goodIn_of _ (by decide +kernel)) ggL_law_X7_thaw
set_option maxRecDepth 20000 in
theorem ggL_law_X6_undo : GoodIn wsL_law wsX6_undo := goodIn_r _ [434, 30, 207, 25, 435, 436, 437, 29, 438, 338, 339, 69, 341, 342, 343, 24, 344, 61, 62, 217, 218, 219, 220, 873, 874, 875, 876, 877, 878, 879, 880, 881, 882, 883, 884, 885, 932, 933, 934, 925, 926, 927, 928, 929, 930, 931] (by decide +kernel) (by decide +kernel)
set_option maxRecDepth 20000 in
theorem gL_law_X6_undo : GoodIn wsL_law (wsV RL 61 RX6 yX6_undo wsX6_undo) := goodIn_app (goodIn_of _ (by decide +kernel)) ggL_law_X6_undo
set_option maxRecDepth 20000 in
theorem ggL_law_X7_undo : GoodIn wsL_law wsX7_undo := goodIn_r _ [442, 231, 362, 96, 100, 886, 887, 888, 889, 890, 891, 892, 893, 894, 895, 896, 897, 898, 899, 900, 901, 902, 903, 904, 905, 906, 907, 908, 909, 910, 911, 912, 913, 914, 915] (by decide +kernel) (by decide +kernel)
set_option maxRecDepth 20000 in
theorem gL_law_X7_undo : GoodIn wsL_law (wsV RL 64 RX7 yX7_undo wsX7_undo) := goodIn_app (goodIn_of _ (by decide +kernel)) ggL_law_X7_undo
set_option maxRecDepth 20000 in
theorem ggL_law_X6_reach : GoodIn wsL_law wsX6_reach := goodIn_r _ [446, 21, 25, 283, 284, 285, 19, 286, 148, 447, 448, 449, 2, 450, 37, 242, 451, 452, 453, 36, 454, 80, 455, 456, 78, 457, 79, 458, 459, 460, 461, 462, 463, 464, 465, 466, 253, 254, 255, 53, 52, 467, 299, 300, 468, 469, 470, 471, 472, 473, 474, 77, 475, 476, 477, 478, 75, 479, 480, 481, 482, 483, 484, 485, 486, 487, 488, 489, 490, 491, 492, 493, 494, 495, 873, 874, 875, 876, 877, 878, 879, 880, 881, 882, 883, 884, 885, 918, 919, 920, 921, 922, 923, 924, 925, 926, 927, 928, 929, 930, 931, 935, 936, 937, 938, 939, 940, 941, 942, 943, 944] (by decide +kernel) (by decide +kernel)
set_option maxRecDepth 20000 in
theorem gL_law_X6_reach : GoodIn wsL_law (wsV RL 65 RX6 yX6_reach wsX6_reach) := goodIn_app (goodIn_of _ (by decide +kernel)) ggL_law_X6_reach
set_option maxRecDepth 20000 in
theorem ggL_law_X7_reach : GoodIn wsL_law wsX7_reach := goodIn_r _ [499, 305, 306, 307, 5, 308, 230, 123, 124, 125, 500, 501, 502, 503, 96, 504, 505, 506, 507, 508, 102, 509, 510, 511, 512, 101, 513, 514, 515, 516, 517, 518, 519, 520, 521, 95, 93, 94, 313, 314, 315, 316, 260, 261, 262, 263, 229, 264, 265, 266, 267, 268, 92, 269, 270, 271, 272, 273, 274, 321, 322, 323, 390, 391, 392, 393, 886, 887, 888, 889, 890, 891, 892, 893, 894, 895, 896, 897, 898, 899, 900, 901, 902, 903, 904, 905, 906, 907, 908, 909, 910, 911, 912, 913, 914, 915] (by decide +kernel) (by decide +kernel)
set_option maxRecDepth 20000 in
theorem gL_law_X7_reach : GoodIn wsL_law (wsV RL 68 RX7 yX7_reach wsX7_reach) := goodIn_app (goodIn_of _ (by decide +kernel)) ggL_law_X7_reach
set_option maxRecDepth 20000 in
theorem ggL_law_X6_fewest : GoodIn wsL_law wsX6_fewest := goodIn_r _ [525, 21, 37, 25, 242, 283, 284, 285, 19, 286, 148, 526, 527, 528, 529, 147, 451, 452, 453, 36, 454, 80, 455, 456, 78, 457, 79, 458, 459, 460, 461, 462, 463, 464, 465, 466, 253, 254, 255, 53, 52, 467, 299, 300, 468, 469, 470, 530, 531, 532, 533, 75, 475, 476, 477, 478, 479, 480, 481, 482, 534, 535, 536, 537, 76, 538, 539, 540, 541, 542, 543, 544, 545, 487, 488, 489, 490, 491, 492, 493, 494, 495, 546, 547, 548, 549, 550, 379, 177, 380, 551, 376, 377, 378, 381, 176, 178, 873, 874, 875, 876, 877, 878, 879, 880, 881, 882, 883, 884, 885, 925, 926, 927, 928, 929, 930, 931, 918, 919, 920, 921, 922, 923, 924, 935, 936, 937, 938, 939, 940, 941, 942, 943, 944] (by decide +kernel) (by decide +kernel)
set_option maxRecDepth 20000 in
theorem gL_law_X6_fewest : GoodIn wsL_law (wsV RL 69 RX6 yX6_fewest wsX6_fewest) := goodIn_app (goodIn_of _ (by decide +kernel)) ggL_law_X6_fewest
set_option maxRecDepth 20000 in
theorem ggL_law_X7_fewest : GoodIn wsL_law wsX7_fewest := goodIn_r _ [555, 96, 508, 102, 101, 305, 306, 307, 5, 308, 230, 123, 124, 125, 556, 557, 558, 559, 229, 509, 510, 511, 512, 513, 514, 515, 516, 517, 518, 519, 520, 521, 95, 93, 94, 313, 314, 315, 316, 260, 261, 262, 263, 264, 265, 266, 267, 268, 92, 269, 270, 271, 272, 273, 274, 321, 322, 323, 390, 391, 392, 393, 886, 887, 888, 889, 890, 891, 892, 893, 894, 895, 896, 897, 898, 899, 900, 901, 902, 903, 904, 905, 906, 907, 908, 909, 910, 911, 912, 913, 914, 915] (by decide +kernel) (by decide +kernel)
set_option maxRecDepth 20000 in
theorem gL_law_X7_fewest : GoodIn wsL_law (wsV RL 72 RX7 yX7_fewest wsX7_fewest) := goodIn_app (goodIn_of _ (by decide +kernel)) ggL_law_X7_fewest
set_option maxRecDepth 20000 in
theorem ggL_law_X6_wants : GoodIn wsL_law wsX6_wants := goodIn_r _ [563, 21, 208, 25, 242, 283, 284, 285, 19, 286, 148, 526, 527, 528, 529, 147, 564, 565, 566, 2, 567, 37, 451, 452, 453, 36, 454, 80, 455, 456, 78, 457, 79, 458, 459, 460, 461, 462, 463, 464, 465, 466, 253, 254, 255, 53, 52, 467, 299, 300, 468, 469, 470, 471, 472, 473, 474, 77, 475, 476, 477, 478, 75, 479, 480, 481, 482, 483, 484, 485, 486, 487, 488, 489, 490, 491, 492, 493, 494, 495, 568, 569, 570, 571, 572, 573, 574, 873, 874, 875, 876, 877, 878, 879, 880, 881, 882, 883, 884, 885, 918, 919, 920, 921, 922, 923, 924, 925, 926, 927, 928, 929, 930, 931, 935, 936, 937, 938, 939, 940, 941, 942, 943, 944] (by decide +kernel) (by decide +kernel)
set_option maxRecDepth 20000 in
theorem gL_law_X6_wants : GoodIn wsL_law (wsV RL 73 RX6 yX6_wants wsX6_wants) := goodIn_app (goodIn_of _ (by decide +kernel)) ggL_law_X6_wants
set_option maxRecDepth 20000 in
theorem ggL_law_X7_wants : GoodIn wsL_law wsX7_wants := goodIn_r _ [578, 229, 96, 305, 306, 307, 5, 308, 230, 123, 124, 125, 556, 557, 558, 559, 579, 580, 581, 504, 505, 506, 507, 508, 102, 509, 510, 511, 512, 101, 513, 514, 515, 516, 517, 518, 519, 520, 521, 95, 93, 94, 313, 314, 315, 316, 260, 261, 262, 263, 264, 265, 266, 267, 268, 92, 269, 270, 271, 272, 273, 274, 321, 322, 323, 390, 391, 392, 393, 886, 887, 888, 889, 890, 891, 892, 893, 894, 895, 896, 897, 898, 899, 900, 901, 902, 903, 904, 905, 906, 907, 908, 909, 910, 911, 912, 913, 914, 915] (by decide +kernel) (by decide +kernel)
set_option maxRecDepth 20000 in
theorem gL_law_X7_wants : GoodIn wsL_law (wsV RL 76 RX7 yX7_wants wsX7_wants) := goodIn_app (goodIn_of _ (by decide +kernel)) ggL_law_X7_wants
set_option maxRecDepth 20000 in
theorem ggL_law_X6_shutIn : GoodIn wsL_law wsX6_shutIn := goodIn_r _ [585, 21, 209, 25, 279, 447, 448, 449, 2, 450, 37, 242, 451, 452, 453, 36, 454, 80, 455, 456, 78, 457, 79, 458, 459, 460, 461, 462, 463, 464, 465, 466, 253, 254, 19, 255, 53, 52, 467, 299, 300, 468, 469, 470, 471, 472, 473, 474, 77, 475, 476, 477, 478, 75, 479, 480, 481, 482, 483, 484, 485, 486, 487, 488, 489, 490, 491, 492, 493, 494, 495, 873, 874, 875, 876, 877, 878, 879, 880, 881, 882, 883, 884, 885, 918, 919, 920, 921, 922, 923, 924, 925, 926, 927, 928, 929, 930, 931, 935, 936, 937, 938, 939, 940, 941, 942, 943, 944] (by decide +kernel) (by decide +kernel)
set_option maxRecDepth 20000 in
theorem gL_law_X6_shutIn : GoodIn wsL_law (wsV RL 77 RX6 yX6_shutIn wsX6_shutIn) := goodIn_app (goodIn_of _ (by decide +kernel)) ggL_law_X6_shutIn
set_option maxRecDepth 20000 in
theorem ggL_law_X7_shutIn : GoodIn wsL_law wsX7_shutIn := goodIn_r _ [589, 230, 96, 500, 501, 502, 5, 503, 504, 505, 506, 507, 508, 102, 509, 510, 511, 512, 101, 513, 514, 515, 516, 517, 518, 519, 520, 521, 95, 93, 94, 313, 314, 315, 316, 260, 261, 262, 263, 229, 123, 124, 125, 264, 265, 266, 267, 268, 92, 269, 270, 271, 272, 273, 274, 321, 322, 323, 390, 391, 392, 393, 886, 887, 888, 889, 890, 891, 892, 893, 894, 895, 896, 897, 898, 899, 900, 901, 902, 903, 904, 905, 906, 907, 908, 909, 910, 911, 912, 913, 914, 915] (by decide +kernel) (by decide +kernel)
set_option maxRecDepth 20000 in
theorem gL_law_X7_shutIn : GoodIn wsL_law (wsV RL 80 RX7 yX7_shutIn wsX7_shutIn) := goodIn_app (goodIn_of _ (by decide +kernel)) ggL_law_X7_shutIn
set_option maxRecDepth 20000 in
theorem ggL_law_X6_meet : GoodIn wsL_law wsX6_meet := goodIn_r _ [593, 21, 25, 283, 284, 285, 19, 286, 148, 447, 448, 449, 2, 450, 37, 242, 451, 452, 453, 36, 454, 80, 455, 456, 78, 457, 79, 458, 459, 460, 461, 462, 463, 464, 465, 466, 253, 254, 255, 53, 52, 467, 299, 300, 468, 469, 470, 471, 472, 473, 474, 77, 475, 476, 477, 478, 75, 479, 480, 481, 482, 483, 484, 485, 486, 487, 488, 489, 490, 491, 492, 493, 494, 495, 873, 874, 875, 876, 877, 878, 879, 880, 881, 882, 883, 884, 885, 918, 919, 920, 921, 922, 923, 924, 925, 926, 927, 928, 929, 930, 931, 935, 936, 937, 938, 939, 940, 941, 942, 943, 944] (by decide +kernel) (by decide +kernel)
set_option maxRecDepth 20000 in
theorem gL_law_X6_meet : GoodIn wsL_law (wsV RL 81 RX6 yX6_meet wsX6_meet) := goodIn_app (goodIn_of _ (by decide +kernel)) ggL_law_X6_meet
set_option maxRecDepth 20000 in
theorem ggL_law_X7_meet : GoodIn wsL_law wsX7_meet := goodIn_r _ [597, 305, 306, 307, 5, 308, 230, 123, 124, 125, 500, 501, 502, 503, 96, 504, 505, 506, 507, 508, 102, 509, 510, 511, 512, 101, 513, 514, 515, 516, 517, 518, 519, 520, 521, 95, 93, 94, 313, 314, 315, 316, 260, 261, 262, 263, 229, 264, 265, 266, 267, 268, 92, 269, 270, 271, 272, 273, 274, 321, 322, 323, 390, 391, 392, 393, 886, 887, 888, 889, 890, 891, 892, 893, 894, 895, 896, 897, 898, 899, 900, 901, 902, 903, 904, 905, 906, 907, 908, 909, 910, 911, 912, 913, 914, 915] (by decide +kernel) (by decide +kernel)
set_option maxRecDepth 20000 in
theorem gL_law_X7_meet : GoodIn wsL_law (wsV RL 84 RX7 yX7_meet wsX7_meet) := goodIn_app (goodIn_of _ (by decide +kernel)) ggL_law_X7_meet
set_option maxRecDepth 20000 in
theorem ggL_law_X6_judge : GoodIn wsL_law wsX6_judge := goodIn_r _ [601, 602, 26, 25, 603, 604, 342, 343, 24, 344, 61, 62, 217, 218, 219, 220, 605, 606, 607, 608, 63, 609, 610, 611, 612, 613, 329, 330, 331, 332, 284, 285, 19, 286, 148, 333, 288, 289, 290, 291, 292, 293, 294, 295, 296, 245, 246, 247, 147, 297, 249, 250, 251, 252, 253, 254, 255, 53, 52, 298, 299, 300, 614, 346, 347, 348, 349, 216, 615, 616, 617, 618, 619, 372, 373, 374, 375, 376, 377, 378, 379, 177, 380, 381, 176, 178, 620, 621, 622, 623, 624, 399, 400, 401, 625, 403, 404, 405, 626, 627, 628, 629, 630, 416, 417, 418, 873, 874, 875, 876, 877, 878, 879, 880, 881, 882, 883, 884, 885, 925, 926, 927, 928, 929, 930, 931, 918, 919, 920, 921, 922, 923, 924] (by decide +kernel) (by decide +kernel)
set_option maxRecDepth 20000 in
theorem gL_law_X6_judge : GoodIn wsL_law (wsV RL 87 RX6 yX6_judge wsX6_judge) := goodIn_app (goodIn_of _ (by decide +kernel)) ggL_law_X6_judge
set_option maxRecDepth 20000 in
theorem ggL_law_X7_judge : GoodIn wsL_law wsX7_judge := goodIn_r _ [634, 635, 636, 123, 124, 5, 125, 637, 638, 639, 640, 641, 642, 643, 96, 644, 645, 646, 647, 354, 355, 356, 357, 305, 306, 307, 308, 230, 313, 314, 315, 316, 260, 261, 262, 263, 229, 317, 318, 319, 320, 95, 264, 265, 266, 267, 268, 93, 92, 269, 270, 271, 272, 273, 274, 321, 322, 323, 363, 364, 365, 366, 94, 386, 387, 388, 389, 390, 391, 392, 393, 886, 887, 888, 889, 890, 891, 892, 893, 894, 895, 896, 897, 898, 899, 900, 901, 902, 903, 904, 905, 906, 907, 908, 909, 910, 911, 912, 913, 914, 915] (by decide +kernel) (by decide +kernel)
set_option maxRecDepth 20000 in
theorem gL_law_X7_judge : GoodIn wsL_law (wsV RL 91 RX7 yX7_judge wsX7_judge) := goodIn_app (goodIn_of _ (by decide +kernel)) ggL_law_X7_judge
set_option maxRecDepth 20000 in
theorem ggL_law_X6_hear : GoodIn wsL_law wsX6_hear := goodIn_r _ [651, 41, 652, 653, 654, 40, 655, 656, 85, 86, 873, 874, 875, 876, 877, 878, 879, 880, 881, 882, 883, 884, 885, 945, 946, 947, 948] (by decide +kernel) (by decide +kernel)
set_option maxRecDepth 20000 in
theorem gL_law_X6_hear : GoodIn wsL_law (wsV RL 92 RX6 yX6_hear wsX6_hear) := goodIn_app (goodIn_of _ (by decide +kernel)) ggL_law_X6_hear
set_option maxRecDepth 20000 in
theorem ggL_law_X7_hear : GoodIn wsL_law wsX7_hear := goodIn_r _ [660, 661, 662, 103, 104, 123, 124, 5, 125, 886, 887, 888, 889, 890, 891, 892, 893, 894, 895, 896, 897, 898, 899, 900, 901, 902, 903, 904, 905, 906, 907, 908, 909, 910, 911, 912, 913, 914, 915] (by decide +kernel) (by decide +kernel)
set_option maxRecDepth 20000 in
theorem gL_law_X7_hear : GoodIn wsL_law (wsV RL 95 RX7 yX7_hear wsX7_hear) := goodIn_app (goodIn_of _ (by decide +kernel)) ggL_law_X7_hear
set_option maxRecDepth 20000 in
theorem ggL_law_X6_unhear : GoodIn wsL_law wsX6_unhear := goodIn_r _ [666, 41, 667, 873, 874, 875, 876, 877, 878, 879, 880, 881, 882, 883, 884, 885, 945, 946, 947, 948] (by decide +kernel) (by decide +kernel)
set_option maxRecDepth 20000 in
theorem gL_law_X6_unhear : GoodIn wsL_law (wsV RL 96 RX6 yX6_unhear wsX6_unhear) := goodIn_app (goodIn_of _ (by decide +kernel)) ggL_law_X6_unhear
set_option maxRecDepth 20000 in
theorem ggL_law_X7_unhear : GoodIn wsL_law wsX7_unhear := goodIn_r _ [671, 662, 886, 887, 888, 889, 890, 891, 892, 893, 894, 895, 896, 897, 898, 899, 900, 901, 902, 903, 904, 905, 906, 907, 908, 909, 910, 911, 912, 913, 914, 915] (by decide +kernel) (by decide +kernel)
set_option maxRecDepth 20000 in
theorem gL_law_X7_unhear : GoodIn wsL_law (wsV RL 99 RX7 yX7_unhear wsX7_unhear) := goodIn_app (goodIn_of _ (by decide +kernel)) ggL_law_X7_unhear
set_option maxRecDepth 20000 in
theorem ggL_law_X6_who : GoodIn wsL_law wsX6_who := goodIn_r _ [675, 41, 676, 677, 678, 40, 679, 680, 681, 682, 683, 656, 85, 86, 684, 685, 686, 687, 87, 688, 689, 690, 222, 223, 19, 224, 147, 53, 691, 253, 254, 255, 52, 692, 299, 300, 693, 694, 695, 696, 873, 874, 875, 876, 877, 878, 879, 880, 881, 882, 883, 884, 885, 945, 946, 947, 948, 918, 919, 920, 921, 922, 923, 924] (by decide +kernel) (by decide +kernel)
set_option maxRecDepth 20000 in
theorem gL_law_X6_who : GoodIn wsL_law (wsV RL 100 RX6 yX6_who wsX6_who) := goodIn_app (goodIn_of _ (by decide +kernel)) ggL_law_X6_who
set_option maxRecDepth 20000 in
theorem ggL_law_X7_who : GoodIn wsL_law wsX7_who := goodIn_r _ [700, 662, 103, 104, 123, 124, 5, 125, 701, 702, 703, 704, 229, 93, 232, 233, 234, 235, 264, 265, 266, 267, 268, 92, 269, 270, 271, 272, 273, 274, 321, 322, 323, 886, 887, 888, 889, 890, 891, 892, 893, 894, 895, 896, 897, 898, 899, 900, 901, 902, 903, 904, 905, 906, 907, 908, 909, 910, 911, 912, 913, 914, 915] (by decide +kernel) (by decide +kernel)
set_option maxRecDepth 20000 in
theorem gL_law_X7_who : GoodIn wsL_law (wsV RL 103 RX7 yX7_who wsX7_who) := goodIn_app (goodIn_of _ (by decide +kernel)) ggL_law_X7_who
set_option maxRecDepth 20000 in
theorem ggL_law_X6_share : GoodIn wsL_law wsX6_share := goodIn_r _ [708, 21, 25, 208, 283, 284, 285, 19, 286, 148, 447, 448, 449, 2, 450, 37, 242, 451, 452, 453, 36, 454, 80, 455, 456, 78, 457, 79, 458, 459, 460, 461, 462, 463, 464, 465, 466, 253, 254, 255, 53, 52, 467, 299, 300, 468, 469, 470, 471, 472, 473, 474, 77, 475, 476, 477, 478, 75, 479, 480, 481, 482, 483, 484, 485, 486, 487, 488, 489, 490, 491, 492, 493, 494, 495, 709, 710, 711, 712, 209, 713, 714, 715, 716, 717, 718, 719, 720, 721, 873, 874, 875, 876, 877, 878, 879, 880, 881, 882, 883, 884, 885, 918, 919, 920, 921, 922, 923, 924, 925, 926, 927, 928, 929, 930, 931, 935, 936, 937, 938, 939, 940, 941, 942, 943, 944] (by decide +kernel) (by decide +kernel)
set_option maxRecDepth 20000 in
theorem gL_law_X6_share : GoodIn wsL_law (wsV RL 104 RX6 yX6_share wsX6_share) := goodIn_app (goodIn_of _ (by decide +kernel)) ggL_law_X6_share
set_option maxRecDepth 20000 in
theorem ggL_law_X7_share : GoodIn wsL_law wsX7_share := goodIn_r _ [725, 230, 105, 305, 306, 307, 5, 308, 123, 124, 125, 500, 501, 502, 503, 96, 504, 505, 506, 507, 508, 102, 509, 510, 511, 512, 101, 513, 514, 515, 516, 517, 518, 519, 520, 521, 95, 93, 94, 313, 314, 315, 316, 260, 261, 262, 263, 229, 264, 265, 266, 267, 268, 92, 269, 270, 271, 272, 273, 274, 321, 322, 323, 390, 391, 392, 393, 579, 580, 581, 726, 727, 728, 729, 730, 731, 732, 733, 734, 735, 886, 887, 888, 889, 890, 891, 892, 893, 894, 895, 896, 897, 898, 899, 900, 901, 902, 903, 904, 905, 906, 907, 908, 909, 910, 911, 912, 913, 914, 915] (by decide +kernel) (by decide +kernel)
set_option maxRecDepth 20000 in
theorem gL_law_X7_share : GoodIn wsL_law (wsV RL 107 RX7 yX7_share wsX7_share) := goodIn_app (goodIn_of _ (by decide +kernel)) ggL_law_X7_share
set_option maxRecDepth 20000 in
theorem ggL_law_X6_rests : GoodIn wsL_law wsX6_rests := goodIn_r _ [739, 21, 283, 284, 285, 19, 286, 148, 740, 741, 742, 2, 743, 26, 25, 43, 44, 604, 342, 343, 24, 344, 61, 62, 217, 218, 219, 220, 744, 610, 611, 612, 613, 329, 330, 331, 63, 332, 333, 288, 289, 290, 291, 292, 293, 294, 295, 296, 245, 246, 247, 147, 297, 249, 250, 251, 252, 253, 254, 255, 53, 52, 298, 299, 300, 614, 346, 347, 348, 349, 216, 745, 746, 747, 748, 279, 447, 448, 449, 450, 37, 242, 451, 452, 453, 36, 454, 80, 455, 456, 78, 457, 79, 458, 459, 460, 461, 462, 463, 464, 465, 466, 467, 468, 469, 470, 471, 472, 473, 474, 77, 475, 476, 477, 478, 75, 479, 480, 481, 482, 483, 484, 485, 486, 487, 488, 489, 490, 491, 492, 493, 494, 495, 749, 750, 751, 752, 753, 754, 755, 756, 757, 758, 759, 760, 873, 874, 875, 876, 877, 878, 879, 880, 881, 882, 883, 884, 885, 918, 919, 920, 921, 922, 923, 924, 925, 926, 927, 928, 929, 930, 931, 935, 936, 937, 938, 939, 940, 941, 942, 943, 944] (by decide +kernel) (by decide +kernel)
set_option maxRecDepth 20000 in
theorem gL_law_X6_rests : GoodIn wsL_law (wsV RL 108 RX6 yX6_rests wsX6_rests) := goodIn_app (goodIn_of _ (by decide +kernel)) ggL_law_X6_rests
set_option maxRecDepth 20000 in
theorem ggL_law_X7_rests : GoodIn wsL_law wsX7_rests := goodIn_r _ [764, 305, 306, 307, 5, 308, 230, 123, 124, 125, 765, 766, 767, 768, 769, 770, 771, 772, 96, 640, 641, 642, 643, 773, 774, 775, 776, 354, 355, 356, 357, 313, 314, 315, 316, 260, 261, 262, 263, 229, 317, 318, 319, 320, 95, 264, 265, 266, 267, 268, 93, 92, 269, 270, 271, 272, 273, 274, 321, 322, 323, 363, 364, 365, 366, 94, 504, 505, 506, 507, 508, 102, 509, 510, 511, 512, 101, 513, 514, 515, 516, 517, 518, 519, 520, 521, 390, 391, 392, 393, 886, 887, 888, 889, 890, 891, 892, 893, 894, 895, 896, 897, 898, 899, 900, 901, 902, 903, 904, 905, 906, 907, 908, 909, 910, 911, 912, 913, 914, 915] (by decide +kernel) (by decide +kernel)
set_option maxRecDepth 20000 in
theorem gL_law_X7_rests : GoodIn wsL_law (wsV RL 112 RX7 yX7_rests wsX7_rests) := goodIn_app (goodIn_of _ (by decide +kernel)) ggL_law_X7_rests
set_option maxRecDepth 20000 in
theorem ggL_law_X6_icy : GoodIn wsL_law wsX6_icy := goodIn_r _ [780, 21, 25, 242, 283, 284, 285, 19, 286, 148, 526, 527, 528, 529, 147, 781, 782, 783, 784, 53, 568, 569, 570, 571, 572, 573, 574, 785, 786, 2, 787, 564, 565, 566, 567, 37, 451, 452, 453, 36, 454, 80, 455, 456, 78, 457, 79, 458, 459, 460, 461, 462, 463, 464, 465, 466, 253, 254, 255, 52, 467, 299, 300, 468, 469, 470, 471, 472, 473, 474, 77, 475, 476, 477, 478, 75, 479, 480, 481, 482, 483, 484, 485, 486, 487, 488, 489, 490, 491, 492, 493, 494, 495, 716, 717, 718, 719, 720, 721, 873, 874, 875, 876, 877, 878, 879, 880, 881, 882, 883, 884, 885, 925, 926, 927, 928, 929, 930, 931, 918, 919, 920, 921, 922, 923, 924, 935, 936, 937, 938, 939, 940, 941, 942, 943, 944] (by decide +kernel) (by decide +kernel)
set_option maxRecDepth 20000 in
theorem gL_law_X6_icy : GoodIn wsL_law (wsV RL 113 RX6 yX6_icy wsX6_icy) := goodIn_app (goodIn_of _ (by decide +kernel)) ggL_law_X6_icy
set_option maxRecDepth 20000 in
theorem ggL_law_X7_icy : GoodIn wsL_law wsX7_icy := goodIn_r _ [791, 661, 268, 305, 306, 307, 5, 308, 230, 123, 124, 125, 556, 557, 558, 559, 229, 792, 793, 794, 795, 93, 579, 580, 581, 796, 797, 798, 500, 501, 502, 503, 96, 504, 505, 506, 507, 508, 102, 509, 510, 511, 512, 101, 513, 514, 515, 516, 517, 518, 519, 520, 521, 95, 94, 313, 314, 315, 316, 260, 261, 262, 263, 264, 265, 266, 267, 92, 269, 270, 271, 272, 273, 274, 321, 322, 323, 390, 391, 392, 393, 733, 734, 735, 886, 887, 888, 889, 890, 891, 892, 893, 894, 895, 896, 897, 898, 899, 900, 901, 902, 903, 904, 905, 906, 907, 908, 909, 910, 911, 912, 913, 914, 915] (by decide +kernel) (by decide +kernel)
set_option maxRecDepth 20000 in
theorem gL_law_X7_icy : GoodIn wsL_law (wsV RL 117 RX7 yX7_icy wsX7_icy) := goodIn_app (goodIn_of _ (by decide +kernel)) ggL_law_X7_icy
set_option maxRecDepth 20000 in
theorem ggL_law_X6_seed : GoodIn wsL_law wsX6_seed := goodIn_r _ [802, 803, 873, 874, 875, 876, 877, 878, 879, 880, 881, 882, 883, 884, 885] (by decide +kernel) (by decide +kernel)
set_option maxRecDepth 20000 in
theorem gL_law_X6_seed : GoodIn wsL_law (wsV RL 118 RX6 yX6_seed wsX6_seed) := goodIn_app (goodIn_of _ (by decide +kernel)) ggL_law_X6_seed
set_option maxRecDepth 20000 in
theorem ggL_law_X7_seed : GoodIn wsL_law wsX7_seed := goodIn_r _ [807, 808, 886, 887, 888, 889, 890, 891, 892, 893, 894, 895, 896, 897, 898, 899, 900, 901, 902, 903, 904, 905, 906, 907, 908, 909, 910, 911, 912, 913, 914, 915] (by decide +kernel) (by decide +kernel)
set_option maxRecDepth 20000 in
theorem gL_law_X7_seed : GoodIn wsL_law (wsV RL 122 RX7 yX7_seed wsX7_seed) := goodIn_app (goodIn_of _ (by decide +kernel)) ggL_law_X7_seed
set_option maxRecDepth 20000 in
theorem ggL_law_X6_summers : GoodIn wsL_law wsX6_summers := goodIn_r _ [812, 26, 25, 803, 813, 814, 815, 604, 342, 343, 24, 344, 61, 62, 217, 218, 219, 220, 816, 817, 818, 819, 609, 610, 611, 612, 613, 329, 330, 331, 63, 332, 284, 285, 19, 286, 148, 333, 288, 289, 290, 291, 292, 293, 294, 295, 296, 245, 246, 247, 147, 297, 249, 250, 251, 252, 253, 254, 255, 53, 52, 298, 299, 300, 614, 346, 347, 348, 349, 216, 615, 616, 617, 618, 619, 372, 373, 374, 375, 376, 377, 378, 379, 177, 380, 381, 176, 178, 620, 621, 622, 623, 624, 399, 400, 401, 625, 403, 404, 405, 626, 627, 628, 629, 630, 416, 417, 418, 820, 821, 822, 823, 214, 873, 874, 875, 876, 877, 878, 879, 880, 881, 882, 883, 884, 885, 925, 926, 927, 928, 929, 930, 931, 918, 919, 920, 921, 922, 923, 924] (by decide +kernel) (by decide +kernel)
set_option maxRecDepth 20000 in
theorem gL_law_X6_summers : GoodIn wsL_law (wsV RL 123 RX6 yX6_summers wsX6_summers) := goodIn_app (goodIn_of _ (by decide +kernel)) ggL_law_X6_summers
set_option maxRecDepth 20000 in
theorem ggL_law_X7_summers : GoodIn wsL_law wsX7_summers := goodIn_r _ [827, 828, 808, 829, 830, 831, 230, 96, 123, 124, 5, 125, 640, 641, 642, 643, 644, 645, 646, 647, 354, 355, 356, 357, 305, 306, 307, 308, 313, 314, 315, 316, 260, 261, 262, 263, 229, 317, 318, 319, 320, 95, 264, 265, 266, 267, 268, 93, 92, 269, 270, 271, 272, 273, 274, 321, 322, 323, 363, 364, 365, 366, 94, 386, 387, 388, 389, 390, 391, 392, 393, 886, 887, 888, 889, 890, 891, 892, 893, 894, 895, 896, 897, 898, 899, 900, 901, 902, 903, 904, 905, 906, 907, 908, 909, 910, 911, 912, 913, 914, 915] (by decide +kernel) (by decide +kernel)
set_option maxRecDepth 20000 in
theorem gL_law_X7_summers : GoodIn wsL_law (wsV RL 126 RX7 yX7_summers wsX7_summers) := goodIn_app (goodIn_of _ (by decide +kernel)) ggL_law_X7_summers
set_option maxRecDepth 20000 in
theorem ggL_law_X6_keep : GoodIn wsL_law wsX6_keep := goodIn_r _ [835, 31, 25, 33, 836, 604, 342, 343, 24, 344, 61, 62, 217, 218, 219, 220, 873, 874, 875, 876, 877, 878, 879, 880, 881, 882, 883, 884, 885, 925, 926, 927, 928, 929, 930, 931] (by decide +kernel) (by decide +kernel)
set_option maxRecDepth 20000 in
theorem gL_law_X6_keep : GoodIn wsL_law (wsV RL 127 RX6 yX6_keep wsX6_keep) := goodIn_app (goodIn_of _ (by decide +kernel)) ggL_law_X6_keep
set_option maxRecDepth 20000 in
theorem ggL_law_X7_keep : GoodIn wsL_law wsX7_keep := goodIn_r _ [840, 106, 107, 96, 123, 124, 5, 125, 886, 887, 888, 889, 890, 891, 892, 893, 894, 895, 896, 897, 898, 899, 900, 901, 902, 903, 904, 905, 906, 907, 908, 909, 910, 911, 912, 913, 914, 915] (by decide +kernel) (by decide +kernel)
set_option maxRecDepth 20000 in
theorem gL_law_X7_keep : GoodIn wsL_law (wsV RL 130 RX7 yX7_keep wsX7_keep) := goodIn_app (goodIn_of _ (by decide +kernel)) ggL_law_X7_keep
set_option maxRecDepth 20000 in
theorem ggL_law_X6_again : GoodIn wsL_law wsX6_again := goodIn_r _ [844, 33, 25, 31, 30, 207, 836, 604, 342, 343, 24, 344, 61, 62, 217, 218, 219, 220, 873, 874, 875, 876, 877, 878, 879, 880, 881, 882, 883, 884, 885, 932, 933, 934, 925, 926, 927, 928, 929, 930, 931] (by decide +kernel) (by decide +kernel)
set_option maxRecDepth 20000 in
theorem gL_law_X6_again : GoodIn wsL_law (wsV RL 131 RX6 yX6_again wsX6_again) := goodIn_app (goodIn_of _ (by decide +kernel)) ggL_law_X6_again
set_option maxRecDepth 20000 in
theorem ggL_law_X7_again : GoodIn wsL_law wsX7_again := goodIn_r _ [848, 106, 96, 107, 231, 123, 124, 5, 125, 886, 887, 888, 889, 890, 891, 892, 893, 894, 895, 896, 897, 898, 899, 900, 901, 902, 903, 904, 905, 906, 907, 908, 909, 910, 911, 912, 913, 914, 915] (by decide +kernel) (by decide +kernel)
set_option maxRecDepth 20000 in
theorem gL_law_X7_again : GoodIn wsL_law (wsV RL 134 RX7 yX7_again wsX7_again) := goodIn_app (goodIn_of _ (by decide +kernel)) ggL_law_X7_again
set_option maxRecDepth 20000 in
theorem ggL_law_X6_count : GoodIn wsL_law wsX6_count := goodIn_r _ [852, 16, 130, 21, 208, 209, 25, 836, 414, 242, 243, 30, 207, 41, 667, 853, 854, 855, 24, 856, 63, 214, 61, 857, 858, 859, 860, 62, 873, 874, 875, 876, 877, 878, 879, 880, 881, 882, 883, 884, 885, 916, 917, 918, 919, 920, 921, 922, 923, 924, 925, 926, 927, 928, 929, 930, 931, 932, 933, 934, 945, 946, 947, 948] (by decide +kernel) (by decide +kernel)
set_option maxRecDepth 20000 in
theorem gL_law_X6_count : GoodIn wsL_law (wsV RL 135 RX6 yX6_count wsX6_count) := goodIn_app (goodIn_of _ (by decide +kernel)) ggL_law_X6_count
set_option maxRecDepth 20000 in
theorem ggL_law_X7_count : GoodIn wsL_law wsX7_count := goodIn_r _ [864, 122, 229, 230, 96, 231, 662, 865, 866, 867, 5, 868, 869, 870, 871, 872, 886, 887, 888, 889, 890, 891, 892, 893, 894, 895, 896, 897, 898, 899, 900, 901, 902, 903, 904, 905, 906, 907, 908, 909, 910, 911, 912, 913, 914, 915] (by decide +kernel) (by decide +kernel)
set_option maxRecDepth 20000 in
theorem gL_law_X7_count : GoodIn wsL_law (wsV RL 138 RX7 yX7_count wsX7_count) := goodIn_app (goodIn_of _ (by decide +kernel)) ggL_law_X7_count
theorem dL_law_0 : decode cL_law 0 = .ok (.new 7, 3) := by decide +kernel
theorem dL_law_3 : decode cL_law 3 = .ok (.dup, 1) := by decide +kernel
theorem dL_law_4 : decode cL_law 4 = .ok (.invokespecial 9, 3) := by decide +kernel
theorem dL_law_7 : decode cL_law 7 = .ok (.astore_n 1, 1) := by decide +kernel
theorem dL_law_8 : decode cL_law 8 = .ok (.new 10, 3) := by decide +kernel
theorem dL_law_11 : decode cL_law 11 = .ok (.dup, 1) := by decide +kernel
theorem dL_law_12 : decode cL_law 12 = .ok (.invokespecial 12, 3) := by decide +kernel
theorem dL_law_15 : decode cL_law 15 = .ok (.astore_n 2, 1) := by decide +kernel
theorem dL_law_16 : decode cL_law 16 = .ok (.iconst 0, 1) := by decide +kernel
theorem dL_law_17 : decode cL_law 17 = .ok (.istore_n 3, 1) := by decide +kernel
theorem dL_law_18 : decode cL_law 18 = .ok (.iload_n 3, 1) := by decide +kernel
theorem dL_law_19 : decode cL_law 19 = .ok (.aload_n 0, 1) := by decide +kernel
theorem dL_law_20 : decode cL_law 20 = .ok (.arraylength, 1) := by decide +kernel
theorem dL_law_21 : decode cL_law 21 = .ok (.iconst 5, 1) := by decide +kernel
theorem dL_law_22 : decode cL_law 22 = .ok (.isub, 1) := by decide +kernel
theorem dL_law_23 : decode cL_law 23 = .ok (.if_icmp .gt 983, 3) := by decide +kernel
theorem dL_law_26 : decode cL_law 26 = .ok (.aload_n 0, 1) := by decide +kernel
theorem dL_law_27 : decode cL_law 27 = .ok (.iload_n 3, 1) := by decide +kernel
theorem dL_law_28 : decode cL_law 28 = .ok (.iaload, 1) := by decide +kernel
theorem dL_law_29 : decode cL_law 29 = .ok (.bipush 31, 2) := by decide +kernel
theorem dL_law_31 : decode cL_law 31 = .ok (.iand, 1) := by decide +kernel
theorem dL_law_32 : decode cL_law 32 = .ok (.tableswitch 968 0 28 #[132, 155, 168, 181, 194, 227, 260, 309, 332, 355, 368, 381, 394, 417, 450, 483, 496, 529, 592, 625, 638, 661, 710, 753, 822, 876, 899, 922, 945], 132) := by decide +kernel
theorem dL_law_164 : decode cL_law 164 = .ok (.aload_n 1, 1) := by decide +kernel
theorem dL_law_165 : decode cL_law 165 = .ok (.aload_n 0, 1) := by decide +kernel
theorem dL_law_166 : decode cL_law 166 = .ok (.iload_n 3, 1) := by decide +kernel
theorem dL_law_167 : decode cL_law 167 = .ok (.iconst 1, 1) := by decide +kernel
theorem dL_law_168 : decode cL_law 168 = .ok (.iadd, 1) := by decide +kernel
theorem dL_law_169 : decode cL_law 169 = .ok (.iaload, 1) := by decide +kernel
theorem dL_law_170 : decode cL_law 170 = .ok (.invokevirtual 13, 3) := by decide +kernel
theorem dL_law_173 : decode cL_law 173 = .ok (.aload_n 2, 1) := by decide +kernel
theorem dL_law_174 : decode cL_law 174 = .ok (.aload_n 0, 1) := by decide +kernel
theorem dL_law_175 : decode cL_law 175 = .ok (.iload_n 3, 1) := by decide +kernel
theorem dL_law_176 : decode cL_law 176 = .ok (.iconst 1, 1) := by decide +kernel
theorem dL_law_177 : decode cL_law 177 = .ok (.iadd, 1) := by decide +kernel
theorem dL_law_178 : decode cL_law 178 = .ok (.iaload, 1) := by decide +kernel
theorem dL_law_179 : decode cL_law 179 = .ok (.invokevirtual 17, 3) := by decide +kernel
theorem dL_law_182 : decode cL_law 182 = .ok (.if_icmp .eq 818, 3) := by decide +kernel
theorem dL_law_185 : decode cL_law 185 = .ok (.iconst 0, 1) := by decide +kernel
theorem dL_law_186 : decode cL_law 186 = .ok (.ireturn, 1) := by decide +kernel
theorem dL_law_187 : decode cL_law 187 = .ok (.aload_n 1, 1) := by decide +kernel
theorem dL_law_188 : decode cL_law 188 = .ok (.invokevirtual 18, 3) := by decide +kernel
theorem dL_law_191 : decode cL_law 191 = .ok (.aload_n 2, 1) := by decide +kernel
theorem dL_law_192 : decode cL_law 192 = .ok (.invokevirtual 22, 3) := by decide +kernel
theorem dL_law_195 : decode cL_law 195 = .ok (.if_icmp .eq 805, 3) := by decide +kernel
theorem dL_law_198 : decode cL_law 198 = .ok (.iconst 0, 1) := by decide +kernel
theorem dL_law_199 : decode cL_law 199 = .ok (.ireturn, 1) := by decide +kernel
theorem dL_law_200 : decode cL_law 200 = .ok (.aload_n 1, 1) := by decide +kernel
theorem dL_law_201 : decode cL_law 201 = .ok (.invokevirtual 23, 3) := by decide +kernel
theorem dL_law_204 : decode cL_law 204 = .ok (.aload_n 2, 1) := by decide +kernel
theorem dL_law_205 : decode cL_law 205 = .ok (.invokevirtual 26, 3) := by decide +kernel
theorem dL_law_208 : decode cL_law 208 = .ok (.if_icmp .eq 792, 3) := by decide +kernel
theorem dL_law_211 : decode cL_law 211 = .ok (.iconst 0, 1) := by decide +kernel
theorem dL_law_212 : decode cL_law 212 = .ok (.ireturn, 1) := by decide +kernel
theorem dL_law_213 : decode cL_law 213 = .ok (.aload_n 1, 1) := by decide +kernel
theorem dL_law_214 : decode cL_law 214 = .ok (.invokevirtual 27, 3) := by decide +kernel
theorem dL_law_217 : decode cL_law 217 = .ok (.aload_n 2, 1) := by decide +kernel
theorem dL_law_218 : decode cL_law 218 = .ok (.invokevirtual 30, 3) := by decide +kernel
theorem dL_law_221 : decode cL_law 221 = .ok (.if_icmp .eq 779, 3) := by decide +kernel
theorem dL_law_224 : decode cL_law 224 = .ok (.iconst 0, 1) := by decide +kernel
theorem dL_law_225 : decode cL_law 225 = .ok (.ireturn, 1) := by decide +kernel
theorem dL_law_226 : decode cL_law 226 = .ok (.aload_n 1, 1) := by decide +kernel
theorem dL_law_227 : decode cL_law 227 = .ok (.aload_n 0, 1) := by decide +kernel
theorem dL_law_228 : decode cL_law 228 = .ok (.iload_n 3, 1) := by decide +kernel
theorem dL_law_229 : decode cL_law 229 = .ok (.iconst 1, 1) := by decide +kernel
theorem dL_law_230 : decode cL_law 230 = .ok (.iadd, 1) := by decide +kernel
theorem dL_law_231 : decode cL_law 231 = .ok (.iaload, 1) := by decide +kernel
theorem dL_law_232 : decode cL_law 232 = .ok (.aload_n 0, 1) := by decide +kernel
theorem dL_law_233 : decode cL_law 233 = .ok (.iload_n 3, 1) := by decide +kernel
theorem dL_law_234 : decode cL_law 234 = .ok (.iconst 2, 1) := by decide +kernel
theorem dL_law_235 : decode cL_law 235 = .ok (.iadd, 1) := by decide +kernel
theorem dL_law_236 : decode cL_law 236 = .ok (.iaload, 1) := by decide +kernel
theorem dL_law_237 : decode cL_law 237 = .ok (.invokevirtual 31, 3) := by decide +kernel
theorem dL_law_240 : decode cL_law 240 = .ok (.aload_n 2, 1) := by decide +kernel
theorem dL_law_241 : decode cL_law 241 = .ok (.aload_n 0, 1) := by decide +kernel
theorem dL_law_242 : decode cL_law 242 = .ok (.iload_n 3, 1) := by decide +kernel
theorem dL_law_243 : decode cL_law 243 = .ok (.iconst 1, 1) := by decide +kernel
theorem dL_law_244 : decode cL_law 244 = .ok (.iadd, 1) := by decide +kernel
theorem dL_law_245 : decode cL_law 245 = .ok (.iaload, 1) := by decide +kernel
theorem dL_law_246 : decode cL_law 246 = .ok (.aload_n 0, 1) := by decide +kernel
theorem dL_law_247 : decode cL_law 247 = .ok (.iload_n 3, 1) := by decide +kernel
theorem dL_law_248 : decode cL_law 248 = .ok (.iconst 2, 1) := by decide +kernel
theorem dL_law_249 : decode cL_law 249 = .ok (.iadd, 1) := by decide +kernel
theorem dL_law_250 : decode cL_law 250 = .ok (.iaload, 1) := by decide +kernel
theorem dL_law_251 : decode cL_law 251 = .ok (.invokevirtual 35, 3) := by decide +kernel
theorem dL_law_254 : decode cL_law 254 = .ok (.if_icmp .eq 746, 3) := by decide +kernel
theorem dL_law_257 : decode cL_law 257 = .ok (.iconst 0, 1) := by decide +kernel
theorem dL_law_258 : decode cL_law 258 = .ok (.ireturn, 1) := by decide +kernel
theorem dL_law_259 : decode cL_law 259 = .ok (.aload_n 1, 1) := by decide +kernel
theorem dL_law_260 : decode cL_law 260 = .ok (.aload_n 0, 1) := by decide +kernel
theorem dL_law_261 : decode cL_law 261 = .ok (.iload_n 3, 1) := by decide +kernel
theorem dL_law_262 : decode cL_law 262 = .ok (.iconst 1, 1) := by decide +kernel
theorem dL_law_263 : decode cL_law 263 = .ok (.iadd, 1) := by decide +kernel
theorem dL_law_264 : decode cL_law 264 = .ok (.iaload, 1) := by decide +kernel
theorem dL_law_265 : decode cL_law 265 = .ok (.aload_n 0, 1) := by decide +kernel
theorem dL_law_266 : decode cL_law 266 = .ok (.iload_n 3, 1) := by decide +kernel
theorem dL_law_267 : decode cL_law 267 = .ok (.iconst 2, 1) := by decide +kernel
theorem dL_law_268 : decode cL_law 268 = .ok (.iadd, 1) := by decide +kernel
theorem dL_law_269 : decode cL_law 269 = .ok (.iaload, 1) := by decide +kernel
theorem dL_law_270 : decode cL_law 270 = .ok (.invokevirtual 36, 3) := by decide +kernel
theorem dL_law_273 : decode cL_law 273 = .ok (.aload_n 2, 1) := by decide +kernel
theorem dL_law_274 : decode cL_law 274 = .ok (.aload_n 0, 1) := by decide +kernel
theorem dL_law_275 : decode cL_law 275 = .ok (.iload_n 3, 1) := by decide +kernel
theorem dL_law_276 : decode cL_law 276 = .ok (.iconst 1, 1) := by decide +kernel
theorem dL_law_277 : decode cL_law 277 = .ok (.iadd, 1) := by decide +kernel
theorem dL_law_278 : decode cL_law 278 = .ok (.iaload, 1) := by decide +kernel
theorem dL_law_279 : decode cL_law 279 = .ok (.aload_n 0, 1) := by decide +kernel
theorem dL_law_280 : decode cL_law 280 = .ok (.iload_n 3, 1) := by decide +kernel
theorem dL_law_281 : decode cL_law 281 = .ok (.iconst 2, 1) := by decide +kernel
theorem dL_law_282 : decode cL_law 282 = .ok (.iadd, 1) := by decide +kernel
theorem dL_law_283 : decode cL_law 283 = .ok (.iaload, 1) := by decide +kernel
theorem dL_law_284 : decode cL_law 284 = .ok (.invokevirtual 39, 3) := by decide +kernel
theorem dL_law_287 : decode cL_law 287 = .ok (.if_icmp .eq 713, 3) := by decide +kernel
theorem dL_law_290 : decode cL_law 290 = .ok (.iconst 0, 1) := by decide +kernel
theorem dL_law_291 : decode cL_law 291 = .ok (.ireturn, 1) := by decide +kernel
theorem dL_law_292 : decode cL_law 292 = .ok (.aload_n 1, 1) := by decide +kernel
theorem dL_law_293 : decode cL_law 293 = .ok (.aload_n 0, 1) := by decide +kernel
theorem dL_law_294 : decode cL_law 294 = .ok (.iload_n 3, 1) := by decide +kernel
theorem dL_law_295 : decode cL_law 295 = .ok (.iconst 1, 1) := by decide +kernel
theorem dL_law_296 : decode cL_law 296 = .ok (.iadd, 1) := by decide +kernel
theorem dL_law_297 : decode cL_law 297 = .ok (.iaload, 1) := by decide +kernel
theorem dL_law_298 : decode cL_law 298 = .ok (.aload_n 0, 1) := by decide +kernel
theorem dL_law_299 : decode cL_law 299 = .ok (.iload_n 3, 1) := by decide +kernel
theorem dL_law_300 : decode cL_law 300 = .ok (.iconst 2, 1) := by decide +kernel
theorem dL_law_301 : decode cL_law 301 = .ok (.iadd, 1) := by decide +kernel
theorem dL_law_302 : decode cL_law 302 = .ok (.iaload, 1) := by decide +kernel
theorem dL_law_303 : decode cL_law 303 = .ok (.ifCond .eq 7, 3) := by decide +kernel
theorem dL_law_306 : decode cL_law 306 = .ok (.iconst 1, 1) := by decide +kernel
theorem dL_law_307 : decode cL_law 307 = .ok (.goto 4, 3) := by decide +kernel
theorem dL_law_310 : decode cL_law 310 = .ok (.iconst 0, 1) := by decide +kernel
theorem dL_law_311 : decode cL_law 311 = .ok (.invokevirtual 40, 3) := by decide +kernel
theorem dL_law_314 : decode cL_law 314 = .ok (.aload_n 2, 1) := by decide +kernel
theorem dL_law_315 : decode cL_law 315 = .ok (.aload_n 0, 1) := by decide +kernel
theorem dL_law_316 : decode cL_law 316 = .ok (.iload_n 3, 1) := by decide +kernel
theorem dL_law_317 : decode cL_law 317 = .ok (.iconst 1, 1) := by decide +kernel
theorem dL_law_318 : decode cL_law 318 = .ok (.iadd, 1) := by decide +kernel
theorem dL_law_319 : decode cL_law 319 = .ok (.iaload, 1) := by decide +kernel
theorem dL_law_320 : decode cL_law 320 = .ok (.aload_n 0, 1) := by decide +kernel
theorem dL_law_321 : decode cL_law 321 = .ok (.iload_n 3, 1) := by decide +kernel
theorem dL_law_322 : decode cL_law 322 = .ok (.iconst 2, 1) := by decide +kernel
theorem dL_law_323 : decode cL_law 323 = .ok (.iadd, 1) := by decide +kernel
theorem dL_law_324 : decode cL_law 324 = .ok (.iaload, 1) := by decide +kernel
theorem dL_law_325 : decode cL_law 325 = .ok (.ifCond .eq 7, 3) := by decide +kernel
theorem dL_law_328 : decode cL_law 328 = .ok (.iconst 1, 1) := by decide +kernel
theorem dL_law_329 : decode cL_law 329 = .ok (.goto 4, 3) := by decide +kernel
theorem dL_law_332 : decode cL_law 332 = .ok (.iconst 0, 1) := by decide +kernel
theorem dL_law_333 : decode cL_law 333 = .ok (.invokevirtual 44, 3) := by decide +kernel
theorem dL_law_336 : decode cL_law 336 = .ok (.if_icmp .eq 664, 3) := by decide +kernel
theorem dL_law_339 : decode cL_law 339 = .ok (.iconst 0, 1) := by decide +kernel
theorem dL_law_340 : decode cL_law 340 = .ok (.ireturn, 1) := by decide +kernel
theorem dL_law_341 : decode cL_law 341 = .ok (.aload_n 1, 1) := by decide +kernel
theorem dL_law_342 : decode cL_law 342 = .ok (.aload_n 0, 1) := by decide +kernel
theorem dL_law_343 : decode cL_law 343 = .ok (.iload_n 3, 1) := by decide +kernel
theorem dL_law_344 : decode cL_law 344 = .ok (.iconst 1, 1) := by decide +kernel
theorem dL_law_345 : decode cL_law 345 = .ok (.iadd, 1) := by decide +kernel
theorem dL_law_346 : decode cL_law 346 = .ok (.iaload, 1) := by decide +kernel
theorem dL_law_347 : decode cL_law 347 = .ok (.invokevirtual 45, 3) := by decide +kernel
theorem dL_law_350 : decode cL_law 350 = .ok (.aload_n 2, 1) := by decide +kernel
theorem dL_law_351 : decode cL_law 351 = .ok (.aload_n 0, 1) := by decide +kernel
theorem dL_law_352 : decode cL_law 352 = .ok (.iload_n 3, 1) := by decide +kernel
theorem dL_law_353 : decode cL_law 353 = .ok (.iconst 1, 1) := by decide +kernel
theorem dL_law_354 : decode cL_law 354 = .ok (.iadd, 1) := by decide +kernel
theorem dL_law_355 : decode cL_law 355 = .ok (.iaload, 1) := by decide +kernel
theorem dL_law_356 : decode cL_law 356 = .ok (.invokevirtual 48, 3) := by decide +kernel
theorem dL_law_359 : decode cL_law 359 = .ok (.if_icmp .eq 641, 3) := by decide +kernel
theorem dL_law_362 : decode cL_law 362 = .ok (.iconst 0, 1) := by decide +kernel
theorem dL_law_363 : decode cL_law 363 = .ok (.ireturn, 1) := by decide +kernel
theorem dL_law_364 : decode cL_law 364 = .ok (.aload_n 1, 1) := by decide +kernel
theorem dL_law_365 : decode cL_law 365 = .ok (.aload_n 0, 1) := by decide +kernel
theorem dL_law_366 : decode cL_law 366 = .ok (.iload_n 3, 1) := by decide +kernel
theorem dL_law_367 : decode cL_law 367 = .ok (.iconst 1, 1) := by decide +kernel
theorem dL_law_368 : decode cL_law 368 = .ok (.iadd, 1) := by decide +kernel
theorem dL_law_369 : decode cL_law 369 = .ok (.iaload, 1) := by decide +kernel
theorem dL_law_370 : decode cL_law 370 = .ok (.invokevirtual 49, 3) := by decide +kernel
theorem dL_law_373 : decode cL_law 373 = .ok (.aload_n 2, 1) := by decide +kernel
theorem dL_law_374 : decode cL_law 374 = .ok (.aload_n 0, 1) := by decide +kernel
theorem dL_law_375 : decode cL_law 375 = .ok (.iload_n 3, 1) := by decide +kernel
theorem dL_law_376 : decode cL_law 376 = .ok (.iconst 1, 1) := by decide +kernel
theorem dL_law_377 : decode cL_law 377 = .ok (.iadd, 1) := by decide +kernel
theorem dL_law_378 : decode cL_law 378 = .ok (.iaload, 1) := by decide +kernel
theorem dL_law_379 : decode cL_law 379 = .ok (.invokevirtual 52, 3) := by decide +kernel
theorem dL_law_382 : decode cL_law 382 = .ok (.if_icmp .eq 618, 3) := by decide +kernel
theorem dL_law_385 : decode cL_law 385 = .ok (.iconst 0, 1) := by decide +kernel
theorem dL_law_386 : decode cL_law 386 = .ok (.ireturn, 1) := by decide +kernel
theorem dL_law_387 : decode cL_law 387 = .ok (.aload_n 1, 1) := by decide +kernel
theorem dL_law_388 : decode cL_law 388 = .ok (.invokevirtual 53, 3) := by decide +kernel
theorem dL_law_391 : decode cL_law 391 = .ok (.aload_n 2, 1) := by decide +kernel
theorem dL_law_392 : decode cL_law 392 = .ok (.invokevirtual 56, 3) := by decide +kernel
theorem dL_law_395 : decode cL_law 395 = .ok (.if_icmp .eq 605, 3) := by decide +kernel
theorem dL_law_398 : decode cL_law 398 = .ok (.iconst 0, 1) := by decide +kernel
theorem dL_law_399 : decode cL_law 399 = .ok (.ireturn, 1) := by decide +kernel
theorem dL_law_400 : decode cL_law 400 = .ok (.aload_n 1, 1) := by decide +kernel
theorem dL_law_401 : decode cL_law 401 = .ok (.invokevirtual 57, 3) := by decide +kernel
theorem dL_law_404 : decode cL_law 404 = .ok (.aload_n 2, 1) := by decide +kernel
theorem dL_law_405 : decode cL_law 405 = .ok (.invokevirtual 60, 3) := by decide +kernel
theorem dL_law_408 : decode cL_law 408 = .ok (.if_icmp .eq 592, 3) := by decide +kernel
theorem dL_law_411 : decode cL_law 411 = .ok (.iconst 0, 1) := by decide +kernel
theorem dL_law_412 : decode cL_law 412 = .ok (.ireturn, 1) := by decide +kernel
theorem dL_law_413 : decode cL_law 413 = .ok (.aload_n 1, 1) := by decide +kernel
theorem dL_law_414 : decode cL_law 414 = .ok (.invokevirtual 61, 3) := by decide +kernel
theorem dL_law_417 : decode cL_law 417 = .ok (.aload_n 2, 1) := by decide +kernel
theorem dL_law_418 : decode cL_law 418 = .ok (.invokevirtual 64, 3) := by decide +kernel
theorem dL_law_421 : decode cL_law 421 = .ok (.if_icmp .eq 579, 3) := by decide +kernel
theorem dL_law_424 : decode cL_law 424 = .ok (.iconst 0, 1) := by decide +kernel
theorem dL_law_425 : decode cL_law 425 = .ok (.ireturn, 1) := by decide +kernel
theorem dL_law_426 : decode cL_law 426 = .ok (.aload_n 1, 1) := by decide +kernel
theorem dL_law_427 : decode cL_law 427 = .ok (.aload_n 0, 1) := by decide +kernel
theorem dL_law_428 : decode cL_law 428 = .ok (.iload_n 3, 1) := by decide +kernel
theorem dL_law_429 : decode cL_law 429 = .ok (.iconst 1, 1) := by decide +kernel
theorem dL_law_430 : decode cL_law 430 = .ok (.iadd, 1) := by decide +kernel
theorem dL_law_431 : decode cL_law 431 = .ok (.iaload, 1) := by decide +kernel
theorem dL_law_432 : decode cL_law 432 = .ok (.invokevirtual 65, 3) := by decide +kernel
theorem dL_law_435 : decode cL_law 435 = .ok (.aload_n 2, 1) := by decide +kernel
theorem dL_law_436 : decode cL_law 436 = .ok (.aload_n 0, 1) := by decide +kernel
theorem dL_law_437 : decode cL_law 437 = .ok (.iload_n 3, 1) := by decide +kernel
theorem dL_law_438 : decode cL_law 438 = .ok (.iconst 1, 1) := by decide +kernel
theorem dL_law_439 : decode cL_law 439 = .ok (.iadd, 1) := by decide +kernel
theorem dL_law_440 : decode cL_law 440 = .ok (.iaload, 1) := by decide +kernel
theorem dL_law_441 : decode cL_law 441 = .ok (.invokevirtual 68, 3) := by decide +kernel
theorem dL_law_444 : decode cL_law 444 = .ok (.if_icmp .eq 556, 3) := by decide +kernel
theorem dL_law_447 : decode cL_law 447 = .ok (.iconst 0, 1) := by decide +kernel
theorem dL_law_448 : decode cL_law 448 = .ok (.ireturn, 1) := by decide +kernel
theorem dL_law_449 : decode cL_law 449 = .ok (.aload_n 1, 1) := by decide +kernel
theorem dL_law_450 : decode cL_law 450 = .ok (.aload_n 0, 1) := by decide +kernel
theorem dL_law_451 : decode cL_law 451 = .ok (.iload_n 3, 1) := by decide +kernel
theorem dL_law_452 : decode cL_law 452 = .ok (.iconst 1, 1) := by decide +kernel
theorem dL_law_453 : decode cL_law 453 = .ok (.iadd, 1) := by decide +kernel
theorem dL_law_454 : decode cL_law 454 = .ok (.iaload, 1) := by decide +kernel
theorem dL_law_455 : decode cL_law 455 = .ok (.aload_n 0, 1) := by decide +kernel
theorem dL_law_456 : decode cL_law 456 = .ok (.iload_n 3, 1) := by decide +kernel
theorem dL_law_457 : decode cL_law 457 = .ok (.iconst 2, 1) := by decide +kernel
theorem dL_law_458 : decode cL_law 458 = .ok (.iadd, 1) := by decide +kernel
theorem dL_law_459 : decode cL_law 459 = .ok (.iaload, 1) := by decide +kernel
theorem dL_law_460 : decode cL_law 460 = .ok (.invokevirtual 69, 3) := by decide +kernel
theorem dL_law_463 : decode cL_law 463 = .ok (.aload_n 2, 1) := by decide +kernel
theorem dL_law_464 : decode cL_law 464 = .ok (.aload_n 0, 1) := by decide +kernel
theorem dL_law_465 : decode cL_law 465 = .ok (.iload_n 3, 1) := by decide +kernel
theorem dL_law_466 : decode cL_law 466 = .ok (.iconst 1, 1) := by decide +kernel
theorem dL_law_467 : decode cL_law 467 = .ok (.iadd, 1) := by decide +kernel
theorem dL_law_468 : decode cL_law 468 = .ok (.iaload, 1) := by decide +kernel
theorem dL_law_469 : decode cL_law 469 = .ok (.aload_n 0, 1) := by decide +kernel
theorem dL_law_470 : decode cL_law 470 = .ok (.iload_n 3, 1) := by decide +kernel
theorem dL_law_471 : decode cL_law 471 = .ok (.iconst 2, 1) := by decide +kernel
theorem dL_law_472 : decode cL_law 472 = .ok (.iadd, 1) := by decide +kernel
theorem dL_law_473 : decode cL_law 473 = .ok (.iaload, 1) := by decide +kernel
theorem dL_law_474 : decode cL_law 474 = .ok (.invokevirtual 72, 3) := by decide +kernel
theorem dL_law_477 : decode cL_law 477 = .ok (.if_icmp .eq 523, 3) := by decide +kernel
theorem dL_law_480 : decode cL_law 480 = .ok (.iconst 0, 1) := by decide +kernel
theorem dL_law_481 : decode cL_law 481 = .ok (.ireturn, 1) := by decide +kernel
theorem dL_law_482 : decode cL_law 482 = .ok (.aload_n 1, 1) := by decide +kernel
theorem dL_law_483 : decode cL_law 483 = .ok (.aload_n 0, 1) := by decide +kernel
theorem dL_law_484 : decode cL_law 484 = .ok (.iload_n 3, 1) := by decide +kernel
theorem dL_law_485 : decode cL_law 485 = .ok (.iconst 1, 1) := by decide +kernel
theorem dL_law_486 : decode cL_law 486 = .ok (.iadd, 1) := by decide +kernel
theorem dL_law_487 : decode cL_law 487 = .ok (.iaload, 1) := by decide +kernel
theorem dL_law_488 : decode cL_law 488 = .ok (.aload_n 0, 1) := by decide +kernel
theorem dL_law_489 : decode cL_law 489 = .ok (.iload_n 3, 1) := by decide +kernel
theorem dL_law_490 : decode cL_law 490 = .ok (.iconst 2, 1) := by decide +kernel
theorem dL_law_491 : decode cL_law 491 = .ok (.iadd, 1) := by decide +kernel
theorem dL_law_492 : decode cL_law 492 = .ok (.iaload, 1) := by decide +kernel
theorem dL_law_493 : decode cL_law 493 = .ok (.invokevirtual 73, 3) := by decide +kernel
theorem dL_law_496 : decode cL_law 496 = .ok (.aload_n 2, 1) := by decide +kernel
theorem dL_law_497 : decode cL_law 497 = .ok (.aload_n 0, 1) := by decide +kernel
theorem dL_law_498 : decode cL_law 498 = .ok (.iload_n 3, 1) := by decide +kernel
theorem dL_law_499 : decode cL_law 499 = .ok (.iconst 1, 1) := by decide +kernel
theorem dL_law_500 : decode cL_law 500 = .ok (.iadd, 1) := by decide +kernel
theorem dL_law_501 : decode cL_law 501 = .ok (.iaload, 1) := by decide +kernel
theorem dL_law_502 : decode cL_law 502 = .ok (.aload_n 0, 1) := by decide +kernel
theorem dL_law_503 : decode cL_law 503 = .ok (.iload_n 3, 1) := by decide +kernel
theorem dL_law_504 : decode cL_law 504 = .ok (.iconst 2, 1) := by decide +kernel
theorem dL_law_505 : decode cL_law 505 = .ok (.iadd, 1) := by decide +kernel
theorem dL_law_506 : decode cL_law 506 = .ok (.iaload, 1) := by decide +kernel
theorem dL_law_507 : decode cL_law 507 = .ok (.invokevirtual 76, 3) := by decide +kernel
theorem dL_law_510 : decode cL_law 510 = .ok (.if_icmp .eq 490, 3) := by decide +kernel
theorem dL_law_513 : decode cL_law 513 = .ok (.iconst 0, 1) := by decide +kernel
theorem dL_law_514 : decode cL_law 514 = .ok (.ireturn, 1) := by decide +kernel
theorem dL_law_515 : decode cL_law 515 = .ok (.aload_n 1, 1) := by decide +kernel
theorem dL_law_516 : decode cL_law 516 = .ok (.invokevirtual 77, 3) := by decide +kernel
theorem dL_law_519 : decode cL_law 519 = .ok (.aload_n 2, 1) := by decide +kernel
theorem dL_law_520 : decode cL_law 520 = .ok (.invokevirtual 80, 3) := by decide +kernel
theorem dL_law_523 : decode cL_law 523 = .ok (.if_icmp .eq 477, 3) := by decide +kernel
theorem dL_law_526 : decode cL_law 526 = .ok (.iconst 0, 1) := by decide +kernel
theorem dL_law_527 : decode cL_law 527 = .ok (.ireturn, 1) := by decide +kernel
theorem dL_law_528 : decode cL_law 528 = .ok (.aload_n 1, 1) := by decide +kernel
theorem dL_law_529 : decode cL_law 529 = .ok (.aload_n 0, 1) := by decide +kernel
theorem dL_law_530 : decode cL_law 530 = .ok (.iload_n 3, 1) := by decide +kernel
theorem dL_law_531 : decode cL_law 531 = .ok (.iconst 1, 1) := by decide +kernel
theorem dL_law_532 : decode cL_law 532 = .ok (.iadd, 1) := by decide +kernel
theorem dL_law_533 : decode cL_law 533 = .ok (.iaload, 1) := by decide +kernel
theorem dL_law_534 : decode cL_law 534 = .ok (.aload_n 0, 1) := by decide +kernel
theorem dL_law_535 : decode cL_law 535 = .ok (.iload_n 3, 1) := by decide +kernel
theorem dL_law_536 : decode cL_law 536 = .ok (.iconst 2, 1) := by decide +kernel
theorem dL_law_537 : decode cL_law 537 = .ok (.iadd, 1) := by decide +kernel
theorem dL_law_538 : decode cL_law 538 = .ok (.iaload, 1) := by decide +kernel
theorem dL_law_539 : decode cL_law 539 = .ok (.invokevirtual 81, 3) := by decide +kernel
theorem dL_law_542 : decode cL_law 542 = .ok (.aload_n 2, 1) := by decide +kernel
theorem dL_law_543 : decode cL_law 543 = .ok (.aload_n 0, 1) := by decide +kernel
theorem dL_law_544 : decode cL_law 544 = .ok (.iload_n 3, 1) := by decide +kernel
theorem dL_law_545 : decode cL_law 545 = .ok (.iconst 1, 1) := by decide +kernel
theorem dL_law_546 : decode cL_law 546 = .ok (.iadd, 1) := by decide +kernel
theorem dL_law_547 : decode cL_law 547 = .ok (.iaload, 1) := by decide +kernel
theorem dL_law_548 : decode cL_law 548 = .ok (.aload_n 0, 1) := by decide +kernel
theorem dL_law_549 : decode cL_law 549 = .ok (.iload_n 3, 1) := by decide +kernel
theorem dL_law_550 : decode cL_law 550 = .ok (.iconst 2, 1) := by decide +kernel
theorem dL_law_551 : decode cL_law 551 = .ok (.iadd, 1) := by decide +kernel
theorem dL_law_552 : decode cL_law 552 = .ok (.iaload, 1) := by decide +kernel
theorem dL_law_553 : decode cL_law 553 = .ok (.invokevirtual 84, 3) := by decide +kernel
theorem dL_law_556 : decode cL_law 556 = .ok (.if_icmp .eq 444, 3) := by decide +kernel
theorem dL_law_559 : decode cL_law 559 = .ok (.iconst 0, 1) := by decide +kernel
theorem dL_law_560 : decode cL_law 560 = .ok (.ireturn, 1) := by decide +kernel
theorem dL_law_561 : decode cL_law 561 = .ok (.aload_n 1, 1) := by decide +kernel
theorem dL_law_562 : decode cL_law 562 = .ok (.aload_n 0, 1) := by decide +kernel
theorem dL_law_563 : decode cL_law 563 = .ok (.iload_n 3, 1) := by decide +kernel
theorem dL_law_564 : decode cL_law 564 = .ok (.iconst 1, 1) := by decide +kernel
theorem dL_law_565 : decode cL_law 565 = .ok (.iadd, 1) := by decide +kernel
theorem dL_law_566 : decode cL_law 566 = .ok (.iaload, 1) := by decide +kernel
theorem dL_law_567 : decode cL_law 567 = .ok (.aload_n 0, 1) := by decide +kernel
theorem dL_law_568 : decode cL_law 568 = .ok (.iload_n 3, 1) := by decide +kernel
theorem dL_law_569 : decode cL_law 569 = .ok (.iconst 2, 1) := by decide +kernel
theorem dL_law_570 : decode cL_law 570 = .ok (.iadd, 1) := by decide +kernel
theorem dL_law_571 : decode cL_law 571 = .ok (.iaload, 1) := by decide +kernel
theorem dL_law_572 : decode cL_law 572 = .ok (.i2l, 1) := by decide +kernel
theorem dL_law_573 : decode cL_law 573 = .ok (.bipush 32, 2) := by decide +kernel
theorem dL_law_575 : decode cL_law 575 = .ok (.lshl, 1) := by decide +kernel
theorem dL_law_576 : decode cL_law 576 = .ok (.aload_n 0, 1) := by decide +kernel
theorem dL_law_577 : decode cL_law 577 = .ok (.iload_n 3, 1) := by decide +kernel
theorem dL_law_578 : decode cL_law 578 = .ok (.iconst 3, 1) := by decide +kernel
theorem dL_law_579 : decode cL_law 579 = .ok (.iadd, 1) := by decide +kernel
theorem dL_law_580 : decode cL_law 580 = .ok (.iaload, 1) := by decide +kernel
theorem dL_law_581 : decode cL_law 581 = .ok (.i2l, 1) := by decide +kernel
theorem dL_law_582 : decode cL_law 582 = .ok (.ldc2_w 85, 3) := by decide +kernel
theorem dL_law_585 : decode cL_law 585 = .ok (.land, 1) := by decide +kernel
theorem dL_law_586 : decode cL_law 586 = .ok (.lor, 1) := by decide +kernel
theorem dL_law_587 : decode cL_law 587 = .ok (.invokevirtual 87, 3) := by decide +kernel
theorem dL_law_590 : decode cL_law 590 = .ok (.aload_n 2, 1) := by decide +kernel
theorem dL_law_591 : decode cL_law 591 = .ok (.aload_n 0, 1) := by decide +kernel
theorem dL_law_592 : decode cL_law 592 = .ok (.iload_n 3, 1) := by decide +kernel
theorem dL_law_593 : decode cL_law 593 = .ok (.iconst 1, 1) := by decide +kernel
theorem dL_law_594 : decode cL_law 594 = .ok (.iadd, 1) := by decide +kernel
theorem dL_law_595 : decode cL_law 595 = .ok (.iaload, 1) := by decide +kernel
theorem dL_law_596 : decode cL_law 596 = .ok (.aload_n 0, 1) := by decide +kernel
theorem dL_law_597 : decode cL_law 597 = .ok (.iload_n 3, 1) := by decide +kernel
theorem dL_law_598 : decode cL_law 598 = .ok (.iconst 2, 1) := by decide +kernel
theorem dL_law_599 : decode cL_law 599 = .ok (.iadd, 1) := by decide +kernel
theorem dL_law_600 : decode cL_law 600 = .ok (.iaload, 1) := by decide +kernel
theorem dL_law_601 : decode cL_law 601 = .ok (.i2l, 1) := by decide +kernel
theorem dL_law_602 : decode cL_law 602 = .ok (.bipush 32, 2) := by decide +kernel
theorem dL_law_604 : decode cL_law 604 = .ok (.lshl, 1) := by decide +kernel
theorem dL_law_605 : decode cL_law 605 = .ok (.aload_n 0, 1) := by decide +kernel
theorem dL_law_606 : decode cL_law 606 = .ok (.iload_n 3, 1) := by decide +kernel
theorem dL_law_607 : decode cL_law 607 = .ok (.iconst 3, 1) := by decide +kernel
theorem dL_law_608 : decode cL_law 608 = .ok (.iadd, 1) := by decide +kernel
theorem dL_law_609 : decode cL_law 609 = .ok (.iaload, 1) := by decide +kernel
theorem dL_law_610 : decode cL_law 610 = .ok (.i2l, 1) := by decide +kernel
theorem dL_law_611 : decode cL_law 611 = .ok (.ldc2_w 85, 3) := by decide +kernel
theorem dL_law_614 : decode cL_law 614 = .ok (.land, 1) := by decide +kernel
theorem dL_law_615 : decode cL_law 615 = .ok (.lor, 1) := by decide +kernel
theorem dL_law_616 : decode cL_law 616 = .ok (.invokevirtual 91, 3) := by decide +kernel
theorem dL_law_619 : decode cL_law 619 = .ok (.if_icmp .eq 381, 3) := by decide +kernel
theorem dL_law_622 : decode cL_law 622 = .ok (.iconst 0, 1) := by decide +kernel
theorem dL_law_623 : decode cL_law 623 = .ok (.ireturn, 1) := by decide +kernel
theorem dL_law_624 : decode cL_law 624 = .ok (.aload_n 1, 1) := by decide +kernel
theorem dL_law_625 : decode cL_law 625 = .ok (.aload_n 0, 1) := by decide +kernel
theorem dL_law_626 : decode cL_law 626 = .ok (.iload_n 3, 1) := by decide +kernel
theorem dL_law_627 : decode cL_law 627 = .ok (.iconst 1, 1) := by decide +kernel
theorem dL_law_628 : decode cL_law 628 = .ok (.iadd, 1) := by decide +kernel
theorem dL_law_629 : decode cL_law 629 = .ok (.iaload, 1) := by decide +kernel
theorem dL_law_630 : decode cL_law 630 = .ok (.aload_n 0, 1) := by decide +kernel
theorem dL_law_631 : decode cL_law 631 = .ok (.iload_n 3, 1) := by decide +kernel
theorem dL_law_632 : decode cL_law 632 = .ok (.iconst 2, 1) := by decide +kernel
theorem dL_law_633 : decode cL_law 633 = .ok (.iadd, 1) := by decide +kernel
theorem dL_law_634 : decode cL_law 634 = .ok (.iaload, 1) := by decide +kernel
theorem dL_law_635 : decode cL_law 635 = .ok (.invokevirtual 92, 3) := by decide +kernel
theorem dL_law_638 : decode cL_law 638 = .ok (.aload_n 2, 1) := by decide +kernel
theorem dL_law_639 : decode cL_law 639 = .ok (.aload_n 0, 1) := by decide +kernel
theorem dL_law_640 : decode cL_law 640 = .ok (.iload_n 3, 1) := by decide +kernel
theorem dL_law_641 : decode cL_law 641 = .ok (.iconst 1, 1) := by decide +kernel
theorem dL_law_642 : decode cL_law 642 = .ok (.iadd, 1) := by decide +kernel
theorem dL_law_643 : decode cL_law 643 = .ok (.iaload, 1) := by decide +kernel
theorem dL_law_644 : decode cL_law 644 = .ok (.aload_n 0, 1) := by decide +kernel
theorem dL_law_645 : decode cL_law 645 = .ok (.iload_n 3, 1) := by decide +kernel
theorem dL_law_646 : decode cL_law 646 = .ok (.iconst 2, 1) := by decide +kernel
theorem dL_law_647 : decode cL_law 647 = .ok (.iadd, 1) := by decide +kernel
theorem dL_law_648 : decode cL_law 648 = .ok (.iaload, 1) := by decide +kernel
theorem dL_law_649 : decode cL_law 649 = .ok (.invokevirtual 95, 3) := by decide +kernel
theorem dL_law_652 : decode cL_law 652 = .ok (.if_icmp .eq 348, 3) := by decide +kernel
theorem dL_law_655 : decode cL_law 655 = .ok (.iconst 0, 1) := by decide +kernel
theorem dL_law_656 : decode cL_law 656 = .ok (.ireturn, 1) := by decide +kernel
theorem dL_law_657 : decode cL_law 657 = .ok (.aload_n 1, 1) := by decide +kernel
theorem dL_law_658 : decode cL_law 658 = .ok (.invokevirtual 96, 3) := by decide +kernel
theorem dL_law_661 : decode cL_law 661 = .ok (.aload_n 2, 1) := by decide +kernel
theorem dL_law_662 : decode cL_law 662 = .ok (.invokevirtual 99, 3) := by decide +kernel
theorem dL_law_665 : decode cL_law 665 = .ok (.if_icmp .eq 335, 3) := by decide +kernel
theorem dL_law_668 : decode cL_law 668 = .ok (.iconst 0, 1) := by decide +kernel
theorem dL_law_669 : decode cL_law 669 = .ok (.ireturn, 1) := by decide +kernel
theorem dL_law_670 : decode cL_law 670 = .ok (.aload_n 1, 1) := by decide +kernel
theorem dL_law_671 : decode cL_law 671 = .ok (.aload_n 0, 1) := by decide +kernel
theorem dL_law_672 : decode cL_law 672 = .ok (.iload_n 3, 1) := by decide +kernel
theorem dL_law_673 : decode cL_law 673 = .ok (.iconst 1, 1) := by decide +kernel
theorem dL_law_674 : decode cL_law 674 = .ok (.iadd, 1) := by decide +kernel
theorem dL_law_675 : decode cL_law 675 = .ok (.iaload, 1) := by decide +kernel
theorem dL_law_676 : decode cL_law 676 = .ok (.invokevirtual 100, 3) := by decide +kernel
theorem dL_law_679 : decode cL_law 679 = .ok (.aload_n 2, 1) := by decide +kernel
theorem dL_law_680 : decode cL_law 680 = .ok (.aload_n 0, 1) := by decide +kernel
theorem dL_law_681 : decode cL_law 681 = .ok (.iload_n 3, 1) := by decide +kernel
theorem dL_law_682 : decode cL_law 682 = .ok (.iconst 1, 1) := by decide +kernel
theorem dL_law_683 : decode cL_law 683 = .ok (.iadd, 1) := by decide +kernel
theorem dL_law_684 : decode cL_law 684 = .ok (.iaload, 1) := by decide +kernel
theorem dL_law_685 : decode cL_law 685 = .ok (.invokevirtual 103, 3) := by decide +kernel
theorem dL_law_688 : decode cL_law 688 = .ok (.if_icmp .eq 312, 3) := by decide +kernel
theorem dL_law_691 : decode cL_law 691 = .ok (.iconst 0, 1) := by decide +kernel
theorem dL_law_692 : decode cL_law 692 = .ok (.ireturn, 1) := by decide +kernel
theorem dL_law_693 : decode cL_law 693 = .ok (.aload_n 1, 1) := by decide +kernel
theorem dL_law_694 : decode cL_law 694 = .ok (.aload_n 0, 1) := by decide +kernel
theorem dL_law_695 : decode cL_law 695 = .ok (.iload_n 3, 1) := by decide +kernel
theorem dL_law_696 : decode cL_law 696 = .ok (.iconst 1, 1) := by decide +kernel
theorem dL_law_697 : decode cL_law 697 = .ok (.iadd, 1) := by decide +kernel
theorem dL_law_698 : decode cL_law 698 = .ok (.iaload, 1) := by decide +kernel
theorem dL_law_699 : decode cL_law 699 = .ok (.aload_n 0, 1) := by decide +kernel
theorem dL_law_700 : decode cL_law 700 = .ok (.iload_n 3, 1) := by decide +kernel
theorem dL_law_701 : decode cL_law 701 = .ok (.iconst 2, 1) := by decide +kernel
theorem dL_law_702 : decode cL_law 702 = .ok (.iadd, 1) := by decide +kernel
theorem dL_law_703 : decode cL_law 703 = .ok (.iaload, 1) := by decide +kernel
theorem dL_law_704 : decode cL_law 704 = .ok (.ifCond .eq 7, 3) := by decide +kernel
theorem dL_law_707 : decode cL_law 707 = .ok (.iconst 1, 1) := by decide +kernel
theorem dL_law_708 : decode cL_law 708 = .ok (.goto 4, 3) := by decide +kernel
theorem dL_law_711 : decode cL_law 711 = .ok (.iconst 0, 1) := by decide +kernel
theorem dL_law_712 : decode cL_law 712 = .ok (.invokevirtual 104, 3) := by decide +kernel
theorem dL_law_715 : decode cL_law 715 = .ok (.aload_n 2, 1) := by decide +kernel
theorem dL_law_716 : decode cL_law 716 = .ok (.aload_n 0, 1) := by decide +kernel
theorem dL_law_717 : decode cL_law 717 = .ok (.iload_n 3, 1) := by decide +kernel
theorem dL_law_718 : decode cL_law 718 = .ok (.iconst 1, 1) := by decide +kernel
theorem dL_law_719 : decode cL_law 719 = .ok (.iadd, 1) := by decide +kernel
theorem dL_law_720 : decode cL_law 720 = .ok (.iaload, 1) := by decide +kernel
theorem dL_law_721 : decode cL_law 721 = .ok (.aload_n 0, 1) := by decide +kernel
theorem dL_law_722 : decode cL_law 722 = .ok (.iload_n 3, 1) := by decide +kernel
theorem dL_law_723 : decode cL_law 723 = .ok (.iconst 2, 1) := by decide +kernel
theorem dL_law_724 : decode cL_law 724 = .ok (.iadd, 1) := by decide +kernel
theorem dL_law_725 : decode cL_law 725 = .ok (.iaload, 1) := by decide +kernel
theorem dL_law_726 : decode cL_law 726 = .ok (.ifCond .eq 7, 3) := by decide +kernel
theorem dL_law_729 : decode cL_law 729 = .ok (.iconst 1, 1) := by decide +kernel
theorem dL_law_730 : decode cL_law 730 = .ok (.goto 4, 3) := by decide +kernel
theorem dL_law_733 : decode cL_law 733 = .ok (.iconst 0, 1) := by decide +kernel
theorem dL_law_734 : decode cL_law 734 = .ok (.invokevirtual 107, 3) := by decide +kernel
theorem dL_law_737 : decode cL_law 737 = .ok (.if_icmp .eq 263, 3) := by decide +kernel
theorem dL_law_740 : decode cL_law 740 = .ok (.iconst 0, 1) := by decide +kernel
theorem dL_law_741 : decode cL_law 741 = .ok (.ireturn, 1) := by decide +kernel
theorem dL_law_742 : decode cL_law 742 = .ok (.aload_n 1, 1) := by decide +kernel
theorem dL_law_743 : decode cL_law 743 = .ok (.aload_n 0, 1) := by decide +kernel
theorem dL_law_744 : decode cL_law 744 = .ok (.iload_n 3, 1) := by decide +kernel
theorem dL_law_745 : decode cL_law 745 = .ok (.iconst 1, 1) := by decide +kernel
theorem dL_law_746 : decode cL_law 746 = .ok (.iadd, 1) := by decide +kernel
theorem dL_law_747 : decode cL_law 747 = .ok (.iaload, 1) := by decide +kernel
theorem dL_law_748 : decode cL_law 748 = .ok (.aload_n 0, 1) := by decide +kernel
theorem dL_law_749 : decode cL_law 749 = .ok (.iload_n 3, 1) := by decide +kernel
theorem dL_law_750 : decode cL_law 750 = .ok (.iconst 2, 1) := by decide +kernel
theorem dL_law_751 : decode cL_law 751 = .ok (.iadd, 1) := by decide +kernel
theorem dL_law_752 : decode cL_law 752 = .ok (.iaload, 1) := by decide +kernel
theorem dL_law_753 : decode cL_law 753 = .ok (.aload_n 0, 1) := by decide +kernel
theorem dL_law_754 : decode cL_law 754 = .ok (.iload_n 3, 1) := by decide +kernel
theorem dL_law_755 : decode cL_law 755 = .ok (.iconst 3, 1) := by decide +kernel
theorem dL_law_756 : decode cL_law 756 = .ok (.iadd, 1) := by decide +kernel
theorem dL_law_757 : decode cL_law 757 = .ok (.iaload, 1) := by decide +kernel
theorem dL_law_758 : decode cL_law 758 = .ok (.invokevirtual 108, 3) := by decide +kernel
theorem dL_law_761 : decode cL_law 761 = .ok (.aload_n 2, 1) := by decide +kernel
theorem dL_law_762 : decode cL_law 762 = .ok (.aload_n 0, 1) := by decide +kernel
theorem dL_law_763 : decode cL_law 763 = .ok (.iload_n 3, 1) := by decide +kernel
theorem dL_law_764 : decode cL_law 764 = .ok (.iconst 1, 1) := by decide +kernel
theorem dL_law_765 : decode cL_law 765 = .ok (.iadd, 1) := by decide +kernel
theorem dL_law_766 : decode cL_law 766 = .ok (.iaload, 1) := by decide +kernel
theorem dL_law_767 : decode cL_law 767 = .ok (.aload_n 0, 1) := by decide +kernel
theorem dL_law_768 : decode cL_law 768 = .ok (.iload_n 3, 1) := by decide +kernel
theorem dL_law_769 : decode cL_law 769 = .ok (.iconst 2, 1) := by decide +kernel
theorem dL_law_770 : decode cL_law 770 = .ok (.iadd, 1) := by decide +kernel
theorem dL_law_771 : decode cL_law 771 = .ok (.iaload, 1) := by decide +kernel
theorem dL_law_772 : decode cL_law 772 = .ok (.aload_n 0, 1) := by decide +kernel
theorem dL_law_773 : decode cL_law 773 = .ok (.iload_n 3, 1) := by decide +kernel
theorem dL_law_774 : decode cL_law 774 = .ok (.iconst 3, 1) := by decide +kernel
theorem dL_law_775 : decode cL_law 775 = .ok (.iadd, 1) := by decide +kernel
theorem dL_law_776 : decode cL_law 776 = .ok (.iaload, 1) := by decide +kernel
theorem dL_law_777 : decode cL_law 777 = .ok (.invokevirtual 112, 3) := by decide +kernel
theorem dL_law_780 : decode cL_law 780 = .ok (.if_icmp .eq 220, 3) := by decide +kernel
theorem dL_law_783 : decode cL_law 783 = .ok (.iconst 0, 1) := by decide +kernel
theorem dL_law_784 : decode cL_law 784 = .ok (.ireturn, 1) := by decide +kernel
theorem dL_law_785 : decode cL_law 785 = .ok (.aload_n 1, 1) := by decide +kernel
theorem dL_law_786 : decode cL_law 786 = .ok (.aload_n 0, 1) := by decide +kernel
theorem dL_law_787 : decode cL_law 787 = .ok (.iload_n 3, 1) := by decide +kernel
theorem dL_law_788 : decode cL_law 788 = .ok (.iconst 1, 1) := by decide +kernel
theorem dL_law_789 : decode cL_law 789 = .ok (.iadd, 1) := by decide +kernel
theorem dL_law_790 : decode cL_law 790 = .ok (.iaload, 1) := by decide +kernel
theorem dL_law_791 : decode cL_law 791 = .ok (.aload_n 0, 1) := by decide +kernel
theorem dL_law_792 : decode cL_law 792 = .ok (.iload_n 3, 1) := by decide +kernel
theorem dL_law_793 : decode cL_law 793 = .ok (.iconst 2, 1) := by decide +kernel
theorem dL_law_794 : decode cL_law 794 = .ok (.iadd, 1) := by decide +kernel
theorem dL_law_795 : decode cL_law 795 = .ok (.iaload, 1) := by decide +kernel
theorem dL_law_796 : decode cL_law 796 = .ok (.aload_n 0, 1) := by decide +kernel
theorem dL_law_797 : decode cL_law 797 = .ok (.iload_n 3, 1) := by decide +kernel
theorem dL_law_798 : decode cL_law 798 = .ok (.iconst 3, 1) := by decide +kernel
theorem dL_law_799 : decode cL_law 799 = .ok (.iadd, 1) := by decide +kernel
theorem dL_law_800 : decode cL_law 800 = .ok (.iaload, 1) := by decide +kernel
theorem dL_law_801 : decode cL_law 801 = .ok (.aload_n 0, 1) := by decide +kernel
theorem dL_law_802 : decode cL_law 802 = .ok (.iload_n 3, 1) := by decide +kernel
theorem dL_law_803 : decode cL_law 803 = .ok (.iconst 4, 1) := by decide +kernel
theorem dL_law_804 : decode cL_law 804 = .ok (.iadd, 1) := by decide +kernel
theorem dL_law_805 : decode cL_law 805 = .ok (.iaload, 1) := by decide +kernel
theorem dL_law_806 : decode cL_law 806 = .ok (.ifCond .eq 7, 3) := by decide +kernel
theorem dL_law_809 : decode cL_law 809 = .ok (.iconst 1, 1) := by decide +kernel
theorem dL_law_810 : decode cL_law 810 = .ok (.goto 4, 3) := by decide +kernel
theorem dL_law_813 : decode cL_law 813 = .ok (.iconst 0, 1) := by decide +kernel
theorem dL_law_814 : decode cL_law 814 = .ok (.invokevirtual 113, 3) := by decide +kernel
theorem dL_law_817 : decode cL_law 817 = .ok (.aload_n 2, 1) := by decide +kernel
theorem dL_law_818 : decode cL_law 818 = .ok (.aload_n 0, 1) := by decide +kernel
theorem dL_law_819 : decode cL_law 819 = .ok (.iload_n 3, 1) := by decide +kernel
theorem dL_law_820 : decode cL_law 820 = .ok (.iconst 1, 1) := by decide +kernel
theorem dL_law_821 : decode cL_law 821 = .ok (.iadd, 1) := by decide +kernel
theorem dL_law_822 : decode cL_law 822 = .ok (.iaload, 1) := by decide +kernel
theorem dL_law_823 : decode cL_law 823 = .ok (.aload_n 0, 1) := by decide +kernel
theorem dL_law_824 : decode cL_law 824 = .ok (.iload_n 3, 1) := by decide +kernel
theorem dL_law_825 : decode cL_law 825 = .ok (.iconst 2, 1) := by decide +kernel
theorem dL_law_826 : decode cL_law 826 = .ok (.iadd, 1) := by decide +kernel
theorem dL_law_827 : decode cL_law 827 = .ok (.iaload, 1) := by decide +kernel
theorem dL_law_828 : decode cL_law 828 = .ok (.aload_n 0, 1) := by decide +kernel
theorem dL_law_829 : decode cL_law 829 = .ok (.iload_n 3, 1) := by decide +kernel
theorem dL_law_830 : decode cL_law 830 = .ok (.iconst 3, 1) := by decide +kernel
theorem dL_law_831 : decode cL_law 831 = .ok (.iadd, 1) := by decide +kernel
theorem dL_law_832 : decode cL_law 832 = .ok (.iaload, 1) := by decide +kernel
theorem dL_law_833 : decode cL_law 833 = .ok (.aload_n 0, 1) := by decide +kernel
theorem dL_law_834 : decode cL_law 834 = .ok (.iload_n 3, 1) := by decide +kernel
theorem dL_law_835 : decode cL_law 835 = .ok (.iconst 4, 1) := by decide +kernel
theorem dL_law_836 : decode cL_law 836 = .ok (.iadd, 1) := by decide +kernel
theorem dL_law_837 : decode cL_law 837 = .ok (.iaload, 1) := by decide +kernel
theorem dL_law_838 : decode cL_law 838 = .ok (.ifCond .eq 7, 3) := by decide +kernel
theorem dL_law_841 : decode cL_law 841 = .ok (.iconst 1, 1) := by decide +kernel
theorem dL_law_842 : decode cL_law 842 = .ok (.goto 4, 3) := by decide +kernel
theorem dL_law_845 : decode cL_law 845 = .ok (.iconst 0, 1) := by decide +kernel
theorem dL_law_846 : decode cL_law 846 = .ok (.invokevirtual 117, 3) := by decide +kernel
theorem dL_law_849 : decode cL_law 849 = .ok (.if_icmp .eq 151, 3) := by decide +kernel
theorem dL_law_852 : decode cL_law 852 = .ok (.iconst 0, 1) := by decide +kernel
theorem dL_law_853 : decode cL_law 853 = .ok (.ireturn, 1) := by decide +kernel
theorem dL_law_854 : decode cL_law 854 = .ok (.aload_n 1, 1) := by decide +kernel
theorem dL_law_855 : decode cL_law 855 = .ok (.aload_n 0, 1) := by decide +kernel
theorem dL_law_856 : decode cL_law 856 = .ok (.iload_n 3, 1) := by decide +kernel
theorem dL_law_857 : decode cL_law 857 = .ok (.iconst 1, 1) := by decide +kernel
theorem dL_law_858 : decode cL_law 858 = .ok (.iadd, 1) := by decide +kernel
theorem dL_law_859 : decode cL_law 859 = .ok (.iaload, 1) := by decide +kernel
theorem dL_law_860 : decode cL_law 860 = .ok (.i2l, 1) := by decide +kernel
theorem dL_law_861 : decode cL_law 861 = .ok (.bipush 32, 2) := by decide +kernel
theorem dL_law_863 : decode cL_law 863 = .ok (.lshl, 1) := by decide +kernel
theorem dL_law_864 : decode cL_law 864 = .ok (.aload_n 0, 1) := by decide +kernel
theorem dL_law_865 : decode cL_law 865 = .ok (.iload_n 3, 1) := by decide +kernel
theorem dL_law_866 : decode cL_law 866 = .ok (.iconst 2, 1) := by decide +kernel
theorem dL_law_867 : decode cL_law 867 = .ok (.iadd, 1) := by decide +kernel
theorem dL_law_868 : decode cL_law 868 = .ok (.iaload, 1) := by decide +kernel
theorem dL_law_869 : decode cL_law 869 = .ok (.i2l, 1) := by decide +kernel
theorem dL_law_870 : decode cL_law 870 = .ok (.ldc2_w 85, 3) := by decide +kernel
theorem dL_law_873 : decode cL_law 873 = .ok (.land, 1) := by decide +kernel
theorem dL_law_874 : decode cL_law 874 = .ok (.lor, 1) := by decide +kernel
theorem dL_law_875 : decode cL_law 875 = .ok (.invokevirtual 118, 3) := by decide +kernel
theorem dL_law_878 : decode cL_law 878 = .ok (.aload_n 2, 1) := by decide +kernel
theorem dL_law_879 : decode cL_law 879 = .ok (.aload_n 0, 1) := by decide +kernel
theorem dL_law_880 : decode cL_law 880 = .ok (.iload_n 3, 1) := by decide +kernel
theorem dL_law_881 : decode cL_law 881 = .ok (.iconst 1, 1) := by decide +kernel
theorem dL_law_882 : decode cL_law 882 = .ok (.iadd, 1) := by decide +kernel
theorem dL_law_883 : decode cL_law 883 = .ok (.iaload, 1) := by decide +kernel
theorem dL_law_884 : decode cL_law 884 = .ok (.i2l, 1) := by decide +kernel
theorem dL_law_885 : decode cL_law 885 = .ok (.bipush 32, 2) := by decide +kernel
theorem dL_law_887 : decode cL_law 887 = .ok (.lshl, 1) := by decide +kernel
theorem dL_law_888 : decode cL_law 888 = .ok (.aload_n 0, 1) := by decide +kernel
theorem dL_law_889 : decode cL_law 889 = .ok (.iload_n 3, 1) := by decide +kernel
theorem dL_law_890 : decode cL_law 890 = .ok (.iconst 2, 1) := by decide +kernel
theorem dL_law_891 : decode cL_law 891 = .ok (.iadd, 1) := by decide +kernel
theorem dL_law_892 : decode cL_law 892 = .ok (.iaload, 1) := by decide +kernel
theorem dL_law_893 : decode cL_law 893 = .ok (.i2l, 1) := by decide +kernel
theorem dL_law_894 : decode cL_law 894 = .ok (.ldc2_w 85, 3) := by decide +kernel
theorem dL_law_897 : decode cL_law 897 = .ok (.land, 1) := by decide +kernel
theorem dL_law_898 : decode cL_law 898 = .ok (.lor, 1) := by decide +kernel
theorem dL_law_899 : decode cL_law 899 = .ok (.invokevirtual 122, 3) := by decide +kernel
theorem dL_law_902 : decode cL_law 902 = .ok (.lcmp, 1) := by decide +kernel
theorem dL_law_903 : decode cL_law 903 = .ok (.ifCond .eq 97, 3) := by decide +kernel
theorem dL_law_906 : decode cL_law 906 = .ok (.iconst 0, 1) := by decide +kernel
theorem dL_law_907 : decode cL_law 907 = .ok (.ireturn, 1) := by decide +kernel
theorem dL_law_908 : decode cL_law 908 = .ok (.aload_n 1, 1) := by decide +kernel
theorem dL_law_909 : decode cL_law 909 = .ok (.aload_n 0, 1) := by decide +kernel
theorem dL_law_910 : decode cL_law 910 = .ok (.iload_n 3, 1) := by decide +kernel
theorem dL_law_911 : decode cL_law 911 = .ok (.iconst 1, 1) := by decide +kernel
theorem dL_law_912 : decode cL_law 912 = .ok (.iadd, 1) := by decide +kernel
theorem dL_law_913 : decode cL_law 913 = .ok (.iaload, 1) := by decide +kernel
theorem dL_law_914 : decode cL_law 914 = .ok (.invokevirtual 123, 3) := by decide +kernel
theorem dL_law_917 : decode cL_law 917 = .ok (.aload_n 2, 1) := by decide +kernel
theorem dL_law_918 : decode cL_law 918 = .ok (.aload_n 0, 1) := by decide +kernel
theorem dL_law_919 : decode cL_law 919 = .ok (.iload_n 3, 1) := by decide +kernel
theorem dL_law_920 : decode cL_law 920 = .ok (.iconst 1, 1) := by decide +kernel
theorem dL_law_921 : decode cL_law 921 = .ok (.iadd, 1) := by decide +kernel
theorem dL_law_922 : decode cL_law 922 = .ok (.iaload, 1) := by decide +kernel
theorem dL_law_923 : decode cL_law 923 = .ok (.invokevirtual 126, 3) := by decide +kernel
theorem dL_law_926 : decode cL_law 926 = .ok (.if_icmp .eq 74, 3) := by decide +kernel
theorem dL_law_929 : decode cL_law 929 = .ok (.iconst 0, 1) := by decide +kernel
theorem dL_law_930 : decode cL_law 930 = .ok (.ireturn, 1) := by decide +kernel
theorem dL_law_931 : decode cL_law 931 = .ok (.aload_n 1, 1) := by decide +kernel
theorem dL_law_932 : decode cL_law 932 = .ok (.aload_n 0, 1) := by decide +kernel
theorem dL_law_933 : decode cL_law 933 = .ok (.iload_n 3, 1) := by decide +kernel
theorem dL_law_934 : decode cL_law 934 = .ok (.iconst 1, 1) := by decide +kernel
theorem dL_law_935 : decode cL_law 935 = .ok (.iadd, 1) := by decide +kernel
theorem dL_law_936 : decode cL_law 936 = .ok (.iaload, 1) := by decide +kernel
theorem dL_law_937 : decode cL_law 937 = .ok (.invokevirtual 127, 3) := by decide +kernel
theorem dL_law_940 : decode cL_law 940 = .ok (.aload_n 2, 1) := by decide +kernel
theorem dL_law_941 : decode cL_law 941 = .ok (.aload_n 0, 1) := by decide +kernel
theorem dL_law_942 : decode cL_law 942 = .ok (.iload_n 3, 1) := by decide +kernel
theorem dL_law_943 : decode cL_law 943 = .ok (.iconst 1, 1) := by decide +kernel
theorem dL_law_944 : decode cL_law 944 = .ok (.iadd, 1) := by decide +kernel
theorem dL_law_945 : decode cL_law 945 = .ok (.iaload, 1) := by decide +kernel
theorem dL_law_946 : decode cL_law 946 = .ok (.invokevirtual 130, 3) := by decide +kernel
theorem dL_law_949 : decode cL_law 949 = .ok (.if_icmp .eq 51, 3) := by decide +kernel
theorem dL_law_952 : decode cL_law 952 = .ok (.iconst 0, 1) := by decide +kernel
theorem dL_law_953 : decode cL_law 953 = .ok (.ireturn, 1) := by decide +kernel
theorem dL_law_954 : decode cL_law 954 = .ok (.aload_n 1, 1) := by decide +kernel
theorem dL_law_955 : decode cL_law 955 = .ok (.aload_n 0, 1) := by decide +kernel
theorem dL_law_956 : decode cL_law 956 = .ok (.iload_n 3, 1) := by decide +kernel
theorem dL_law_957 : decode cL_law 957 = .ok (.iconst 1, 1) := by decide +kernel
theorem dL_law_958 : decode cL_law 958 = .ok (.iadd, 1) := by decide +kernel
theorem dL_law_959 : decode cL_law 959 = .ok (.iaload, 1) := by decide +kernel
theorem dL_law_960 : decode cL_law 960 = .ok (.invokevirtual 131, 3) := by decide +kernel
theorem dL_law_963 : decode cL_law 963 = .ok (.aload_n 2, 1) := by decide +kernel
theorem dL_law_964 : decode cL_law 964 = .ok (.aload_n 0, 1) := by decide +kernel
theorem dL_law_965 : decode cL_law 965 = .ok (.iload_n 3, 1) := by decide +kernel
theorem dL_law_966 : decode cL_law 966 = .ok (.iconst 1, 1) := by decide +kernel
theorem dL_law_967 : decode cL_law 967 = .ok (.iadd, 1) := by decide +kernel
theorem dL_law_968 : decode cL_law 968 = .ok (.iaload, 1) := by decide +kernel
theorem dL_law_969 : decode cL_law 969 = .ok (.invokevirtual 134, 3) := by decide +kernel
theorem dL_law_972 : decode cL_law 972 = .ok (.if_icmp .eq 28, 3) := by decide +kernel
theorem dL_law_975 : decode cL_law 975 = .ok (.iconst 0, 1) := by decide +kernel
theorem dL_law_976 : decode cL_law 976 = .ok (.ireturn, 1) := by decide +kernel
theorem dL_law_977 : decode cL_law 977 = .ok (.aload_n 1, 1) := by decide +kernel
theorem dL_law_978 : decode cL_law 978 = .ok (.aload_n 0, 1) := by decide +kernel
theorem dL_law_979 : decode cL_law 979 = .ok (.iload_n 3, 1) := by decide +kernel
theorem dL_law_980 : decode cL_law 980 = .ok (.iconst 1, 1) := by decide +kernel
theorem dL_law_981 : decode cL_law 981 = .ok (.iadd, 1) := by decide +kernel
theorem dL_law_982 : decode cL_law 982 = .ok (.iaload, 1) := by decide +kernel
theorem dL_law_983 : decode cL_law 983 = .ok (.invokevirtual 135, 3) := by decide +kernel
theorem dL_law_986 : decode cL_law 986 = .ok (.aload_n 2, 1) := by decide +kernel
theorem dL_law_987 : decode cL_law 987 = .ok (.aload_n 0, 1) := by decide +kernel
theorem dL_law_988 : decode cL_law 988 = .ok (.iload_n 3, 1) := by decide +kernel
theorem dL_law_989 : decode cL_law 989 = .ok (.iconst 1, 1) := by decide +kernel
theorem dL_law_990 : decode cL_law 990 = .ok (.iadd, 1) := by decide +kernel
theorem dL_law_991 : decode cL_law 991 = .ok (.iaload, 1) := by decide +kernel
theorem dL_law_992 : decode cL_law 992 = .ok (.invokevirtual 138, 3) := by decide +kernel
theorem dL_law_995 : decode cL_law 995 = .ok (.if_icmp .eq 5, 3) := by decide +kernel
theorem dL_law_998 : decode cL_law 998 = .ok (.iconst 0, 1) := by decide +kernel
theorem dL_law_999 : decode cL_law 999 = .ok (.ireturn, 1) := by decide +kernel
theorem dL_law_1000 : decode cL_law 1000 = .ok (.iinc 3 5, 3) := by decide +kernel
theorem dL_law_1003 : decode cL_law 1003 = .ok (.goto (-985), 3) := by decide +kernel
theorem dL_law_1006 : decode cL_law 1006 = .ok (.iconst 1, 1) := by decide +kernel
theorem dL_law_1007 : decode cL_law 1007 = .ok (.ireturn, 1) := by decide +kernel
abbrev vwCl : List vw_C := [(RX0, TX0, 3), (RX1, TX1, 4), (RX2, TX2, 7), (RX3, TX3, 2), (RX4, TX4, 7), (RX5, TX5, 10), (RX6, TX6, 13), (RX7, TX7, 30)]
