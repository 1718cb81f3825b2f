theorem dX7_thousandTo_13 : decode cX7_thousandTo 13 = .ok (.lmul, 1) := by decide +kernel
theorem dX7_thousandTo_14 : decode cX7_thousandTo 14 = .ok (.lstore_n 1, 1) := by decide +kernel
theorem dX7_thousandTo_15 : decode cX7_thousandTo 15 = .ok (.iinc 3 1, 3) := by decide +kernel
theorem dX7_thousandTo_18 : decode cX7_thousandTo 18 = .ok (.goto (-14), 3) := by decide +kernel
theorem dX7_thousandTo_21 : decode cX7_thousandTo 21 = .ok (.lload_n 1, 1) := by decide +kernel
theorem dX7_thousandTo_22 : decode cX7_thousandTo 22 = .ok (.lreturn, 1) := by decide +kernel
set_option maxRecDepth 20000 in
theorem ggX7_judge_X7_in : GoodIn wsX7_judge wsX7_in := goodIn_r _ [6] (by decide +kernel) (by decide +kernel)
set_option maxRecDepth 20000 in
theorem gX7_judge_X7_in : GoodIn wsX7_judge (va_wsS RX7 61 yX7_in wsX7_in) := goodIn_app (goodIn_of _ (by decide +kernel)) ggX7_judge_X7_in
set_option maxRecDepth 20000 in
theorem ggX7_judge_X7_thousandTo : GoodIn wsX7_judge wsX7_thousandTo := goodIn_r _ [9, 2] (by decide +kernel) (by decide +kernel)
set_option maxRecDepth 20000 in
theorem gX7_judge_X7_thousandTo : GoodIn wsX7_judge (va_wsS RX7 196 yX7_thousandTo wsX7_thousandTo) := goodIn_app (goodIn_of _ (by decide +kernel)) ggX7_judge_X7_thousandTo
set_option maxRecDepth 20000 in
theorem ggX7_judge_X7_layTrial : GoodIn wsX7_judge wsX7_layTrial := goodIn_r _ [13, 14, 71, 72, 73, 74, 75, 76, 77, 78, 79, 80, 81, 82, 83, 84, 85, 86, 87, 88, 89, 90, 91, 92, 93, 94, 95, 96, 97, 98, 99, 100] (by decide +kernel) (by decide +kernel)
set_option maxRecDepth 20000 in
theorem gX7_judge_X7_layTrial : GoodIn wsX7_judge (wsV RX7 200 RX7 yX7_layTrial wsX7_layTrial) := goodIn_app (goodIn_of _ (by decide +kernel)) ggX7_judge_X7_layTrial
set_option maxRecDepth 20000 in
theorem ggX7_judge_X7_tryThing : GoodIn wsX7_judge wsX7_tryThing := goodIn_r _ [18, 14, 19, 20, 21, 5, 22, 23, 24, 25, 26, 27, 3, 4, 6, 28, 29, 30, 31, 32, 33, 34, 35, 36, 37, 38, 39, 40, 41, 42, 43, 44, 45, 46, 47, 48, 49, 50, 51, 52, 53, 54, 55, 56, 57, 58, 59, 60, 61, 62, 63, 64, 65, 66, 67, 68, 69, 70, 71, 72, 73, 74, 75, 76, 77, 78, 79, 80, 81, 82, 83, 84, 85, 86, 87, 88, 89, 90, 91, 92, 93, 94, 95, 96, 97, 98, 99, 100] (by decide +kernel) (by decide +kernel)
set_option maxRecDepth 20000 in
theorem gX7_judge_X7_tryThing : GoodIn wsX7_judge (wsV RX7 203 RX7 yX7_tryThing wsX7_tryThing) := goodIn_app (goodIn_of _ (by decide +kernel)) ggX7_judge_X7_tryThing
theorem dX7_judge_0 : decode cX7_judge 0 = .ok (.iload_n 1, 1) := by decide +kernel
theorem dX7_judge_1 : decode cX7_judge 1 = .ok (.i2l, 1) := by decide +kernel
theorem dX7_judge_2 : decode cX7_judge 2 = .ok (.lconst 1, 1) := by decide +kernel
theorem dX7_judge_3 : decode cX7_judge 3 = .ok (.ldc2_w 194, 3) := by decide +kernel
theorem dX7_judge_6 : decode cX7_judge 6 = .ok (.invokestatic 61, 3) := by decide +kernel
theorem dX7_judge_9 : decode cX7_judge 9 = .ok (.ifCond .eq 17, 3) := by decide +kernel
theorem dX7_judge_12 : decode cX7_judge 12 = .ok (.lload_n 2, 1) := by decide +kernel
theorem dX7_judge_13 : decode cX7_judge 13 = .ok (.lconst 0, 1) := by decide +kernel
theorem dX7_judge_14 : decode cX7_judge 14 = .ok (.iload_n 1, 1) := by decide +kernel
theorem dX7_judge_15 : decode cX7_judge 15 = .ok (.invokestatic 196, 3) := by decide +kernel
theorem dX7_judge_18 : decode cX7_judge 18 = .ok (.lconst 1, 1) := by decide +kernel
theorem dX7_judge_19 : decode cX7_judge 19 = .ok (.lsub, 1) := by decide +kernel
theorem dX7_judge_20 : decode cX7_judge 20 = .ok (.invokestatic 61, 3) := by decide +kernel
theorem dX7_judge_23 : decode cX7_judge 23 = .ok (.ifCond .ne 6, 3) := by decide +kernel
theorem dX7_judge_26 : decode cX7_judge 26 = .ok (.bipush (-2), 2) := by decide +kernel
theorem dX7_judge_28 : decode cX7_judge 28 = .ok (.ireturn, 1) := by decide +kernel
theorem dX7_judge_29 : decode cX7_judge 29 = .ok (.aload_n 0, 1) := by decide +kernel
theorem dX7_judge_30 : decode cX7_judge 30 = .ok (.invokevirtual 200, 3) := by decide +kernel
theorem dX7_judge_33 : decode cX7_judge 33 = .ok (.iconst 0, 1) := by decide +kernel
theorem dX7_judge_34 : decode cX7_judge 34 = .ok (.istore 4, 2) := by decide +kernel
theorem dX7_judge_36 : decode cX7_judge 36 = .ok (.iload 4, 2) := by decide +kernel
theorem dX7_judge_38 : decode cX7_judge 38 = .ok (.iload_n 1, 1) := by decide +kernel
theorem dX7_judge_39 : decode cX7_judge 39 = .ok (.if_icmp .ge 55, 3) := by decide +kernel
theorem dX7_judge_42 : decode cX7_judge 42 = .ok (.lload_n 2, 1) := by decide +kernel
theorem dX7_judge_43 : decode cX7_judge 43 = .ok (.iload_n 1, 1) := by decide +kernel
theorem dX7_judge_44 : decode cX7_judge 44 = .ok (.iconst 1, 1) := by decide +kernel
theorem dX7_judge_45 : decode cX7_judge 45 = .ok (.isub, 1) := by decide +kernel
theorem dX7_judge_46 : decode cX7_judge 46 = .ok (.iload 4, 2) := by decide +kernel
theorem dX7_judge_48 : decode cX7_judge 48 = .ok (.isub, 1) := by decide +kernel
theorem dX7_judge_49 : decode cX7_judge 49 = .ok (.invokestatic 196, 3) := by decide +kernel
theorem dX7_judge_52 : decode cX7_judge 52 = .ok (.ldiv, 1) := by decide +kernel
theorem dX7_judge_53 : decode cX7_judge 53 = .ok (.ldc2_w 192, 3) := by decide +kernel
theorem dX7_judge_56 : decode cX7_judge 56 = .ok (.lrem, 1) := by decide +kernel
theorem dX7_judge_57 : decode cX7_judge 57 = .ok (.l2i, 1) := by decide +kernel
theorem dX7_judge_58 : decode cX7_judge 58 = .ok (.istore 5, 2) := by decide +kernel
theorem dX7_judge_60 : decode cX7_judge 60 = .ok (.aload_n 0, 1) := by decide +kernel
theorem dX7_judge_61 : decode cX7_judge 61 = .ok (.iload 5, 2) := by decide +kernel
theorem dX7_judge_63 : decode cX7_judge 63 = .ok (.bipush 100, 2) := by decide +kernel
theorem dX7_judge_65 : decode cX7_judge 65 = .ok (.idiv, 1) := by decide +kernel
theorem dX7_judge_66 : decode cX7_judge 66 = .ok (.iload 5, 2) := by decide +kernel
theorem dX7_judge_68 : decode cX7_judge 68 = .ok (.bipush 10, 2) := by decide +kernel
theorem dX7_judge_70 : decode cX7_judge 70 = .ok (.idiv, 1) := by decide +kernel
theorem dX7_judge_71 : decode cX7_judge 71 = .ok (.bipush 10, 2) := by decide +kernel
theorem dX7_judge_73 : decode cX7_judge 73 = .ok (.irem, 1) := by decide +kernel
theorem dX7_judge_74 : decode cX7_judge 74 = .ok (.iload 5, 2) := by decide +kernel
theorem dX7_judge_76 : decode cX7_judge 76 = .ok (.bipush 10, 2) := by decide +kernel
theorem dX7_judge_78 : decode cX7_judge 78 = .ok (.irem, 1) := by decide +kernel
theorem dX7_judge_79 : decode cX7_judge 79 = .ok (.invokevirtual 203, 3) := by decide +kernel
theorem dX7_judge_82 : decode cX7_judge 82 = .ok (.ifCond .ne 6, 3) := by decide +kernel
theorem dX7_judge_85 : decode cX7_judge 85 = .ok (.iload 4, 2) := by decide +kernel
theorem dX7_judge_87 : decode cX7_judge 87 = .ok (.ireturn, 1) := by decide +kernel
theorem dX7_judge_88 : decode cX7_judge 88 = .ok (.iinc 4 1, 3) := by decide +kernel
theorem dX7_judge_91 : decode cX7_judge 91 = .ok (.goto (-55), 3) := by decide +kernel
theorem dX7_judge_94 : decode cX7_judge 94 = .ok (.bipush (-9), 2) := by decide +kernel
theorem dX7_judge_96 : decode cX7_judge 96 = .ok (.ireturn, 1) := by decide +kernel
set_option maxRecDepth 20000 in
theorem ggX7_hear_X7_in : GoodIn wsX7_hear wsX7_in := goodIn_r _ [8] (by decide +kernel) (by decide +kernel)
set_option maxRecDepth 20000 in
theorem gX7_hear_X7_in : GoodIn wsX7_hear (va_wsS RX7 61 yX7_in wsX7_in) := goodIn_app (goodIn_of _ (by decide +kernel)) ggX7_hear_X7_in
theorem dX7_hear_0 : decode cX7_hear 0 = .ok (.iload_n 1, 1) := by decide +kernel
theorem dX7_hear_1 : decode cX7_hear 1 = .ok (.i2l, 1) := by decide +kernel
theorem dX7_hear_2 : decode cX7_hear 2 = .ok (.lconst 0, 1) := by decide +kernel
theorem dX7_hear_3 : decode cX7_hear 3 = .ok (.ldc2_w 207, 3) := by decide +kernel
theorem dX7_hear_6 : decode cX7_hear 6 = .ok (.invokestatic 61, 3) := by decide +kernel
theorem dX7_hear_9 : decode cX7_hear 9 = .ok (.ifCond .eq 13, 3) := by decide +kernel
theorem dX7_hear_12 : decode cX7_hear 12 = .ok (.iload_n 2, 1) := by decide +kernel
theorem dX7_hear_13 : decode cX7_hear 13 = .ok (.i2l, 1) := by decide +kernel
theorem dX7_hear_14 : decode cX7_hear 14 = .ok (.lconst 0, 1) := by decide +kernel
theorem dX7_hear_15 : decode cX7_hear 15 = .ok (.lconst 1, 1) := by decide +kernel
theorem dX7_hear_16 : decode cX7_hear 16 = .ok (.invokestatic 61, 3) := by decide +kernel
theorem dX7_hear_19 : decode cX7_hear 19 = .ok (.ifCond .ne 6, 3) := by decide +kernel
theorem dX7_hear_22 : decode cX7_hear 22 = .ok (.bipush (-2), 2) := by decide +kernel
theorem dX7_hear_24 : decode cX7_hear 24 = .ok (.ireturn, 1) := by decide +kernel
theorem dX7_hear_25 : decode cX7_hear 25 = .ok (.aload_n 0, 1) := by decide +kernel
theorem dX7_hear_26 : decode cX7_hear 26 = .ok (.getfield 209, 3) := by decide +kernel
theorem dX7_hear_29 : decode cX7_hear 29 = .ok (.bipush 6, 2) := by decide +kernel
theorem dX7_hear_31 : decode cX7_hear 31 = .ok (.if_icmp .ne 6, 3) := by decide +kernel
theorem dX7_hear_34 : decode cX7_hear 34 = .ok (.bipush (-4), 2) := by decide +kernel
theorem dX7_hear_36 : decode cX7_hear 36 = .ok (.ireturn, 1) := by decide +kernel
theorem dX7_hear_37 : decode cX7_hear 37 = .ok (.aload_n 0, 1) := by decide +kernel
theorem dX7_hear_38 : decode cX7_hear 38 = .ok (.getfield 43, 3) := by decide +kernel
theorem dX7_hear_41 : decode cX7_hear 41 = .ok (.aload_n 0, 1) := by decide +kernel
theorem dX7_hear_42 : decode cX7_hear 42 = .ok (.getfield 209, 3) := by decide +kernel
theorem dX7_hear_45 : decode cX7_hear 45 = .ok (.iload_n 1, 1) := by decide +kernel
theorem dX7_hear_46 : decode cX7_hear 46 = .ok (.iastore, 1) := by decide +kernel
theorem dX7_hear_47 : decode cX7_hear 47 = .ok (.aload_n 0, 1) := by decide +kernel
theorem dX7_hear_48 : decode cX7_hear 48 = .ok (.getfield 46, 3) := by decide +kernel
theorem dX7_hear_51 : decode cX7_hear 51 = .ok (.aload_n 0, 1) := by decide +kernel
theorem dX7_hear_52 : decode cX7_hear 52 = .ok (.getfield 209, 3) := by decide +kernel
theorem dX7_hear_55 : decode cX7_hear 55 = .ok (.iload_n 2, 1) := by decide +kernel
theorem dX7_hear_56 : decode cX7_hear 56 = .ok (.iastore, 1) := by decide +kernel
theorem dX7_hear_57 : decode cX7_hear 57 = .ok (.aload_n 0, 1) := by decide +kernel
theorem dX7_hear_58 : decode cX7_hear 58 = .ok (.dup, 1) := by decide +kernel
theorem dX7_hear_59 : decode cX7_hear 59 = .ok (.getfield 209, 3) := by decide +kernel
theorem dX7_hear_62 : decode cX7_hear 62 = .ok (.iconst 1, 1) := by decide +kernel
theorem dX7_hear_63 : decode cX7_hear 63 = .ok (.iadd, 1) := by decide +kernel
theorem dX7_hear_64 : decode cX7_hear 64 = .ok (.putfield 209, 3) := by decide +kernel
theorem dX7_hear_67 : decode cX7_hear 67 = .ok (.aload_n 0, 1) := by decide +kernel
theorem dX7_hear_68 : decode cX7_hear 68 = .ok (.getfield 209, 3) := by decide +kernel
theorem dX7_hear_71 : decode cX7_hear 71 = .ok (.ireturn, 1) := by decide +kernel
theorem dX7_unhear_0 : decode cX7_unhear 0 = .ok (.aload_n 0, 1) := by decide +kernel
theorem dX7_unhear_1 : decode cX7_unhear 1 = .ok (.getfield 209, 3) := by decide +kernel
theorem dX7_unhear_4 : decode cX7_unhear 4 = .ok (.istore_n 1, 1) := by decide +kernel
theorem dX7_unhear_5 : decode cX7_unhear 5 = .ok (.aload_n 0, 1) := by decide +kernel
theorem dX7_unhear_6 : decode cX7_unhear 6 = .ok (.iconst 0, 1) := by decide +kernel
theorem dX7_unhear_7 : decode cX7_unhear 7 = .ok (.putfield 209, 3) := by decide +kernel
theorem dX7_unhear_10 : decode cX7_unhear 10 = .ok (.iload_n 1, 1) := by decide +kernel
theorem dX7_unhear_11 : decode cX7_unhear 11 = .ok (.ireturn, 1) := by decide +kernel
set_option maxRecDepth 20000 in
theorem ggX7_farthest_X7_smooth : GoodIn wsX7_farthest wsX7_smooth := goodIn_r _ [7, 1, 2, 23, 24, 25, 26, 27, 28, 29, 30, 31, 32, 33, 34, 35, 36, 37, 38, 39, 40, 41, 42, 43, 44, 45, 46, 47, 48, 49, 50, 51, 52] (by decide +kernel) (by decide +kernel)
set_option maxRecDepth 20000 in
theorem gX7_farthest_X7_smooth : GoodIn wsX7_farthest (wsV RX7 99 RX7 yX7_smooth wsX7_smooth) := goodIn_app (goodIn_of _ (by decide +kernel)) ggX7_farthest_X7_smooth
set_option maxRecDepth 20000 in
theorem ggX7_farthest_X7_costs : GoodIn wsX7_farthest wsX7_costs := goodIn_r _ [11, 12, 2, 13, 14, 15, 6, 16, 17, 18, 19, 23, 24, 25, 26, 27, 28, 29, 30, 31, 32, 33, 34, 35, 36, 37, 38, 39, 40, 41, 42, 43, 44, 45, 46, 47, 48, 49, 50, 51, 52] (by decide +kernel) (by decide +kernel)
set_option maxRecDepth 20000 in
theorem gX7_farthest_X7_costs : GoodIn wsX7_farthest (wsV RX7 115 RX7 yX7_costs wsX7_costs) := goodIn_app (goodIn_of _ (by decide +kernel)) ggX7_farthest_X7_costs
set_option maxRecDepth 20000 in
theorem ggX7_farthest_X7_pays : GoodIn wsX7_farthest wsX7_pays := goodIn_r _ [22] (by decide +kernel) (by decide +kernel)
set_option maxRecDepth 20000 in
theorem gX7_farthest_X7_pays : GoodIn wsX7_farthest (va_wsS RX7 119 yX7_pays wsX7_pays) := goodIn_app (goodIn_of _ (by decide +kernel)) ggX7_farthest_X7_pays
theorem dX7_farthest_0 : decode cX7_farthest 0 = .ok (.iload_n 2, 1) := by decide +kernel
theorem dX7_farthest_1 : decode cX7_farthest 1 = .ok (.istore_n 3, 1) := by decide +kernel
theorem dX7_farthest_2 : decode cX7_farthest 2 = .ok (.iconst 0, 1) := by decide +kernel
theorem dX7_farthest_3 : decode cX7_farthest 3 = .ok (.istore 4, 2) := by decide +kernel
theorem dX7_farthest_5 : decode cX7_farthest 5 = .ok (.iload 4, 2) := by decide +kernel
theorem dX7_farthest_7 : decode cX7_farthest 7 = .ok (.aload_n 0, 1) := by decide +kernel
theorem dX7_farthest_8 : decode cX7_farthest 8 = .ok (.getfield 93, 3) := by decide +kernel
theorem dX7_farthest_11 : decode cX7_farthest 11 = .ok (.if_icmp .ge 56, 3) := by decide +kernel
theorem dX7_farthest_14 : decode cX7_farthest 14 = .ok (.iload_n 1, 1) := by decide +kernel
theorem dX7_farthest_15 : decode cX7_farthest 15 = .ok (.aload_n 0, 1) := by decide +kernel
theorem dX7_farthest_16 : decode cX7_farthest 16 = .ok (.iload 4, 2) := by decide +kernel
theorem dX7_farthest_18 : decode cX7_farthest 18 = .ok (.iconst 0, 1) := by decide +kernel
theorem dX7_farthest_19 : decode cX7_farthest 19 = .ok (.aload_n 0, 1) := by decide +kernel
theorem dX7_farthest_20 : decode cX7_farthest 20 = .ok (.invokevirtual 99, 3) := by decide +kernel
theorem dX7_farthest_23 : decode cX7_farthest 23 = .ok (.iconst 0, 1) := by decide +kernel
theorem dX7_farthest_24 : decode cX7_farthest 24 = .ok (.invokevirtual 115, 3) := by decide +kernel
theorem dX7_farthest_27 : decode cX7_farthest 27 = .ok (.invokestatic 119, 3) := by decide +kernel
theorem dX7_farthest_30 : decode cX7_farthest 30 = .ok (.istore 5, 2) := by decide +kernel
theorem dX7_farthest_32 : decode cX7_farthest 32 = .ok (.iload 5, 2) := by decide +kernel
theorem dX7_farthest_34 : decode cX7_farthest 34 = .ok (.iload_n 3, 1) := by decide +kernel
theorem dX7_farthest_35 : decode cX7_farthest 35 = .ok (.if_icmp .le 6, 3) := by decide +kernel
theorem dX7_farthest_38 : decode cX7_farthest 38 = .ok (.iload 4, 2) := by decide +kernel
theorem dX7_farthest_40 : decode cX7_farthest 40 = .ok (.ireturn, 1) := by decide +kernel
theorem dX7_farthest_41 : decode cX7_farthest 41 = .ok (.aload_n 0, 1) := by decide +kernel
theorem dX7_farthest_42 : decode cX7_farthest 42 = .ok (.getfield 13, 3) := by decide +kernel
theorem dX7_farthest_45 : decode cX7_farthest 45 = .ok (.iload 4, 2) := by decide +kernel
theorem dX7_farthest_47 : decode cX7_farthest 47 = .ok (.iaload, 1) := by decide +kernel
theorem dX7_farthest_48 : decode cX7_farthest 48 = .ok (.iconst 3, 1) := by decide +kernel
theorem dX7_farthest_49 : decode cX7_farthest 49 = .ok (.if_icmp .ne 7, 3) := by decide +kernel
theorem dX7_farthest_52 : decode cX7_farthest 52 = .ok (.iload_n 2, 1) := by decide +kernel
theorem dX7_farthest_53 : decode cX7_farthest 53 = .ok (.goto 7, 3) := by decide +kernel
theorem dX7_farthest_56 : decode cX7_farthest 56 = .ok (.iload_n 3, 1) := by decide +kernel
theorem dX7_farthest_57 : decode cX7_farthest 57 = .ok (.iload 5, 2) := by decide +kernel
theorem dX7_farthest_59 : decode cX7_farthest 59 = .ok (.isub, 1) := by decide +kernel
theorem dX7_farthest_60 : decode cX7_farthest 60 = .ok (.istore_n 3, 1) := by decide +kernel
theorem dX7_farthest_61 : decode cX7_farthest 61 = .ok (.iinc 4 1, 3) := by decide +kernel
theorem dX7_farthest_64 : decode cX7_farthest 64 = .ok (.goto (-59), 3) := by decide +kernel
theorem dX7_farthest_67 : decode cX7_farthest 67 = .ok (.aload_n 0, 1) := by decide +kernel
theorem dX7_farthest_68 : decode cX7_farthest 68 = .ok (.getfield 93, 3) := by decide +kernel
theorem dX7_farthest_71 : decode cX7_farthest 71 = .ok (.ireturn, 1) := by decide +kernel
set_option maxRecDepth 20000 in
theorem ggX7_who_X7_in : GoodIn wsX7_who wsX7_in := goodIn_r _ [7] (by decide +kernel) (by decide +kernel)
set_option maxRecDepth 20000 in
theorem gX7_who_X7_in : GoodIn wsX7_who (va_wsS RX7 61 yX7_in wsX7_in) := goodIn_app (goodIn_of _ (by decide +kernel)) ggX7_who_X7_in
set_option maxRecDepth 20000 in
theorem ggX7_who_X7_farthest : GoodIn wsX7_who wsX7_farthest := goodIn_r _ [11, 12, 13, 14, 15, 16, 6, 17, 18, 19, 20, 21, 22, 23, 24, 25, 26, 27, 28, 29, 30, 31, 32, 33, 34, 35, 36, 37, 38, 39, 40, 41, 42, 43, 44, 45, 46, 47, 48, 49, 50, 51, 52, 53, 54, 55, 56, 57, 58, 59, 60, 61, 62] (by decide +kernel) (by decide +kernel)
set_option maxRecDepth 20000 in
theorem gX7_who_X7_farthest : GoodIn wsX7_who (wsV RX7 212 RX7 yX7_farthest wsX7_farthest) := goodIn_app (goodIn_of _ (by decide +kernel)) ggX7_who_X7_farthest
theorem dX7_who_0 : decode cX7_who 0 = .ok (.iload_n 1, 1) := by decide +kernel
theorem dX7_who_1 : decode cX7_who 1 = .ok (.i2l, 1) := by decide +kernel
theorem dX7_who_2 : decode cX7_who 2 = .ok (.lconst 0, 1) := by decide +kernel
theorem dX7_who_3 : decode cX7_who 3 = .ok (.lconst 1, 1) := by decide +kernel
theorem dX7_who_4 : decode cX7_who 4 = .ok (.invokestatic 61, 3) := by decide +kernel
theorem dX7_who_7 : decode cX7_who 7 = .ok (.ifCond .ne 6, 3) := by decide +kernel
theorem dX7_who_10 : decode cX7_who 10 = .ok (.bipush (-2), 2) := by decide +kernel
theorem dX7_who_12 : decode cX7_who 12 = .ok (.ireturn, 1) := by decide +kernel
theorem dX7_who_13 : decode cX7_who 13 = .ok (.iconst 0, 1) := by decide +kernel
theorem dX7_who_14 : decode cX7_who 14 = .ok (.istore_n 2, 1) := by decide +kernel
theorem dX7_who_15 : decode cX7_who 15 = .ok (.bipush (-9), 2) := by decide +kernel
theorem dX7_who_17 : decode cX7_who 17 = .ok (.istore_n 3, 1) := by decide +kernel
theorem dX7_who_18 : decode cX7_who 18 = .ok (.iconst 0, 1) := by decide +kernel
theorem dX7_who_19 : decode cX7_who 19 = .ok (.istore 4, 2) := by decide +kernel
theorem dX7_who_21 : decode cX7_who 21 = .ok (.iload 4, 2) := by decide +kernel
theorem dX7_who_23 : decode cX7_who 23 = .ok (.bipush 36, 2) := by decide +kernel
theorem dX7_who_25 : decode cX7_who 25 = .ok (.if_icmp .ge 139, 3) := by decide +kernel
theorem dX7_who_28 : decode cX7_who 28 = .ok (.aload_n 0, 1) := by decide +kernel
theorem dX7_who_29 : decode cX7_who 29 = .ok (.iload 4, 2) := by decide +kernel
theorem dX7_who_31 : decode cX7_who 31 = .ok (.bipush 9, 2) := by decide +kernel
theorem dX7_who_33 : decode cX7_who 33 = .ok (.idiv, 1) := by decide +kernel
theorem dX7_who_34 : decode cX7_who 34 = .ok (.iconst 1, 1) := by decide +kernel
theorem dX7_who_35 : decode cX7_who 35 = .ok (.iload 4, 2) := by decide +kernel
theorem dX7_who_37 : decode cX7_who 37 = .ok (.bipush 9, 2) := by decide +kernel
theorem dX7_who_39 : decode cX7_who 39 = .ok (.irem, 1) := by decide +kernel
theorem dX7_who_40 : decode cX7_who 40 = .ok (.iadd, 1) := by decide +kernel
theorem dX7_who_41 : decode cX7_who 41 = .ok (.invokevirtual 212, 3) := by decide +kernel
theorem dX7_who_44 : decode cX7_who 44 = .ok (.istore 5, 2) := by decide +kernel
theorem dX7_who_46 : decode cX7_who 46 = .ok (.iconst 1, 1) := by decide +kernel
theorem dX7_who_47 : decode cX7_who 47 = .ok (.istore 6, 2) := by decide +kernel
theorem dX7_who_49 : decode cX7_who 49 = .ok (.iconst 0, 1) := by decide +kernel
theorem dX7_who_50 : decode cX7_who 50 = .ok (.istore 7, 2) := by decide +kernel
theorem dX7_who_52 : decode cX7_who 52 = .ok (.iload 7, 2) := by decide +kernel
theorem dX7_who_54 : decode cX7_who 54 = .ok (.aload_n 0, 1) := by decide +kernel
theorem dX7_who_55 : decode cX7_who 55 = .ok (.getfield 209, 3) := by decide +kernel
theorem dX7_who_58 : decode cX7_who 58 = .ok (.if_icmp .ge 57, 3) := by decide +kernel
theorem dX7_who_61 : decode cX7_who 61 = .ok (.iload 6, 2) := by decide +kernel
theorem dX7_who_63 : decode cX7_who 63 = .ok (.ifCond .eq 43, 3) := by decide +kernel
theorem dX7_who_66 : decode cX7_who 66 = .ok (.iload 5, 2) := by decide +kernel
theorem dX7_who_68 : decode cX7_who 68 = .ok (.aload_n 0, 1) := by decide +kernel
theorem dX7_who_69 : decode cX7_who 69 = .ok (.getfield 43, 3) := by decide +kernel
theorem dX7_who_72 : decode cX7_who 72 = .ok (.iload 7, 2) := by decide +kernel
theorem dX7_who_74 : decode cX7_who 74 = .ok (.iaload, 1) := by decide +kernel
theorem dX7_who_75 : decode cX7_who 75 = .ok (.if_icmp .lt 7, 3) := by decide +kernel
theorem dX7_who_78 : decode cX7_who 78 = .ok (.iconst 1, 1) := by decide +kernel
theorem dX7_who_79 : decode cX7_who 79 = .ok (.goto 4, 3) := by decide +kernel
theorem dX7_who_82 : decode cX7_who 82 = .ok (.iconst 0, 1) := by decide +kernel
theorem dX7_who_83 : decode cX7_who 83 = .ok (.aload_n 0, 1) := by decide +kernel
theorem dX7_who_84 : decode cX7_who 84 = .ok (.getfield 46, 3) := by decide +kernel
theorem dX7_who_87 : decode cX7_who 87 = .ok (.iload 7, 2) := by decide +kernel
theorem dX7_who_89 : decode cX7_who 89 = .ok (.iaload, 1) := by decide +kernel
theorem dX7_who_90 : decode cX7_who 90 = .ok (.iconst 1, 1) := by decide +kernel
theorem dX7_who_91 : decode cX7_who 91 = .ok (.if_icmp .ne 7, 3) := by decide +kernel
theorem dX7_who_94 : decode cX7_who 94 = .ok (.iconst 1, 1) := by decide +kernel
theorem dX7_who_95 : decode cX7_who 95 = .ok (.goto 4, 3) := by decide +kernel
theorem dX7_who_98 : decode cX7_who 98 = .ok (.iconst 0, 1) := by decide +kernel
theorem dX7_who_99 : decode cX7_who 99 = .ok (.if_icmp .ne 7, 3) := by decide +kernel
theorem dX7_who_102 : decode cX7_who 102 = .ok (.iconst 1, 1) := by decide +kernel
theorem dX7_who_103 : decode cX7_who 103 = .ok (.goto 4, 3) := by decide +kernel
theorem dX7_who_106 : decode cX7_who 106 = .ok (.iconst 0, 1) := by decide +kernel
theorem dX7_who_107 : decode cX7_who 107 = .ok (.istore 6, 2) := by decide +kernel
theorem dX7_who_109 : decode cX7_who 109 = .ok (.iinc 7 1, 3) := by decide +kernel
theorem dX7_who_112 : decode cX7_who 112 = .ok (.goto (-60), 3) := by decide +kernel
theorem dX7_who_115 : decode cX7_who 115 = .ok (.iload 6, 2) := by decide +kernel
theorem dX7_who_117 : decode cX7_who 117 = .ok (.ifCond .eq 26, 3) := by decide +kernel
theorem dX7_who_120 : decode cX7_who 120 = .ok (.iload_n 2, 1) := by decide +kernel
theorem dX7_who_121 : decode cX7_who 121 = .ok (.ifCond .ne 22, 3) := by decide +kernel
theorem dX7_who_124 : decode cX7_who 124 = .ok (.bipush 10, 2) := by decide +kernel
theorem dX7_who_126 : decode cX7_who 126 = .ok (.iload 4, 2) := by decide +kernel
theorem dX7_who_128 : decode cX7_who 128 = .ok (.bipush 9, 2) := by decide +kernel
theorem dX7_who_130 : decode cX7_who 130 = .ok (.idiv, 1) := by decide +kernel
theorem dX7_who_131 : decode cX7_who 131 = .ok (.imul, 1) := by decide +kernel
theorem dX7_who_132 : decode cX7_who 132 = .ok (.iconst 1, 1) := by decide +kernel
theorem dX7_who_133 : decode cX7_who 133 = .ok (.iadd, 1) := by decide +kernel
theorem dX7_who_134 : decode cX7_who 134 = .ok (.iload 4, 2) := by decide +kernel
theorem dX7_who_136 : decode cX7_who 136 = .ok (.bipush 9, 2) := by decide +kernel
theorem dX7_who_138 : decode cX7_who 138 = .ok (.irem, 1) := by decide +kernel
theorem dX7_who_139 : decode cX7_who 139 = .ok (.iadd, 1) := by decide +kernel
theorem dX7_who_140 : decode cX7_who 140 = .ok (.goto 4, 3) := by decide +kernel
theorem dX7_who_143 : decode cX7_who 143 = .ok (.iload_n 3, 1) := by decide +kernel
theorem dX7_who_144 : decode cX7_who 144 = .ok (.istore_n 3, 1) := by decide +kernel
theorem dX7_who_145 : decode cX7_who 145 = .ok (.iload_n 2, 1) := by decide +kernel
theorem dX7_who_146 : decode cX7_who 146 = .ok (.iload 6, 2) := by decide +kernel
theorem dX7_who_148 : decode cX7_who 148 = .ok (.ifCond .eq 7, 3) := by decide +kernel
theorem dX7_who_151 : decode cX7_who 151 = .ok (.iconst 1, 1) := by decide +kernel
theorem dX7_who_152 : decode cX7_who 152 = .ok (.goto 4, 3) := by decide +kernel
theorem dX7_who_155 : decode cX7_who 155 = .ok (.iconst 0, 1) := by decide +kernel
theorem dX7_who_156 : decode cX7_who 156 = .ok (.iadd, 1) := by decide +kernel
theorem dX7_who_157 : decode cX7_who 157 = .ok (.istore_n 2, 1) := by decide +kernel
theorem dX7_who_158 : decode cX7_who 158 = .ok (.iinc 4 1, 3) := by decide +kernel
theorem dX7_who_161 : decode cX7_who 161 = .ok (.goto (-140), 3) := by decide +kernel
theorem dX7_who_164 : decode cX7_who 164 = .ok (.iload_n 1, 1) := by decide +kernel
theorem dX7_who_165 : decode cX7_who 165 = .ok (.ifCond .ne 7, 3) := by decide +kernel
theorem dX7_who_168 : decode cX7_who 168 = .ok (.iload_n 2, 1) := by decide +kernel
theorem dX7_who_169 : decode cX7_who 169 = .ok (.goto 4, 3) := by decide +kernel
theorem dX7_who_172 : decode cX7_who 172 = .ok (.iload_n 3, 1) := by decide +kernel
theorem dX7_who_173 : decode cX7_who 173 = .ok (.ireturn, 1) := by decide +kernel
theorem dX7_factorial_0 : decode cX7_factorial 0 = .ok (.iconst 1, 1) := by decide +kernel
theorem dX7_factorial_1 : decode cX7_factorial 1 = .ok (.istore_n 1, 1) := by decide +kernel
theorem dX7_factorial_2 : decode cX7_factorial 2 = .ok (.iconst 2, 1) := by decide +kernel
theorem dX7_factorial_3 : decode cX7_factorial 3 = .ok (.istore_n 2, 1) := by decide +kernel
theorem dX7_factorial_4 : decode cX7_factorial 4 = .ok (.iload_n 2, 1) := by decide +kernel
theorem dX7_factorial_5 : decode cX7_factorial 5 = .ok (.iload_n 0, 1) := by decide +kernel
theorem dX7_factorial_6 : decode cX7_factorial 6 = .ok (.if_icmp .gt 13, 3) := by decide +kernel
theorem dX7_factorial_9 : decode cX7_factorial 9 = .ok (.iload_n 1, 1) := by decide +kernel
theorem dX7_factorial_10 : decode cX7_factorial 10 = .ok (.iload_n 2, 1) := by decide +kernel
theorem dX7_factorial_11 : decode cX7_factorial 11 = .ok (.imul, 1) := by decide +kernel
theorem dX7_factorial_12 : decode cX7_factorial 12 = .ok (.istore_n 1, 1) := by decide +kernel
theorem dX7_factorial_13 : decode cX7_factorial 13 = .ok (.iinc 2 1, 3) := by decide +kernel
theorem dX7_factorial_16 : decode cX7_factorial 16 = .ok (.goto (-12), 3) := by decide +kernel
theorem dX7_factorial_19 : decode cX7_factorial 19 = .ok (.iload_n 1, 1) := by decide +kernel
theorem dX7_factorial_20 : decode cX7_factorial 20 = .ok (.ireturn, 1) := by decide +kernel
theorem dX7_common_0 : decode cX7_common 0 = .ok (.iload_n 0, 1) := by decide +kernel
theorem dX7_common_1 : decode cX7_common 1 = .ok (.ifCond .ge 8, 3) := by decide +kernel
theorem dX7_common_4 : decode cX7_common 4 = .ok (.iload_n 0, 1) := by decide +kernel
theorem dX7_common_5 : decode cX7_common 5 = .ok (.ineg, 1) := by decide +kernel
theorem dX7_common_6 : decode cX7_common 6 = .ok (.goto 4, 3) := by decide +kernel
theorem dX7_common_9 : decode cX7_common 9 = .ok (.iload_n 0, 1) := by decide +kernel
theorem dX7_common_10 : decode cX7_common 10 = .ok (.istore_n 2, 1) := by decide +kernel
theorem dX7_common_11 : decode cX7_common 11 = .ok (.iload_n 1, 1) := by decide +kernel
theorem dX7_common_12 : decode cX7_common 12 = .ok (.istore_n 3, 1) := by decide +kernel
theorem dX7_common_13 : decode cX7_common 13 = .ok (.iload_n 3, 1) := by decide +kernel
theorem dX7_common_14 : decode cX7_common 14 = .ok (.ifCond .eq 16, 3) := by decide +kernel
theorem dX7_common_17 : decode cX7_common 17 = .ok (.iload_n 2, 1) := by decide +kernel
theorem dX7_common_18 : decode cX7_common 18 = .ok (.iload_n 3, 1) := by decide +kernel
theorem dX7_common_19 : decode cX7_common 19 = .ok (.irem, 1) := by decide +kernel
theorem dX7_common_20 : decode cX7_common 20 = .ok (.istore 4, 2) := by decide +kernel
theorem dX7_common_22 : decode cX7_common 22 = .ok (.iload_n 3, 1) := by decide +kernel
theorem dX7_common_23 : decode cX7_common 23 = .ok (.istore_n 2, 1) := by decide +kernel
theorem dX7_common_24 : decode cX7_common 24 = .ok (.iload 4, 2) := by decide +kernel
theorem dX7_common_26 : decode cX7_common 26 = .ok (.istore_n 3, 1) := by decide +kernel
theorem dX7_common_27 : decode cX7_common 27 = .ok (.goto (-14), 3) := by decide +kernel
theorem dX7_common_30 : decode cX7_common 30 = .ok (.iload_n 2, 1) := by decide +kernel
theorem dX7_common_31 : decode cX7_common 31 = .ok (.ireturn, 1) := by decide +kernel
set_option maxRecDepth 20000 in
theorem ggX7_comeTo_X7_has : GoodIn wsX7_comeTo wsX7_has := goodIn_r _ [6] (by decide +kernel) (by decide +kernel)
set_option maxRecDepth 20000 in
theorem gX7_comeTo_X7_has : GoodIn wsX7_comeTo (va_wsS RX7 108 yX7_has wsX7_has) := goodIn_app (goodIn_of _ (by decide +kernel)) ggX7_comeTo_X7_has
set_option maxRecDepth 20000 in
theorem ggX7_comeTo_X7_ones : GoodIn wsX7_comeTo wsX7_ones := goodIn_r _ [9] (by decide +kernel) (by decide +kernel)
set_option maxRecDepth 20000 in
theorem gX7_comeTo_X7_ones : GoodIn wsX7_comeTo (va_wsS RX7 189 yX7_ones wsX7_ones) := goodIn_app (goodIn_of _ (by decide +kernel)) ggX7_comeTo_X7_ones
theorem dX7_comeTo_0 : decode cX7_comeTo 0 = .ok (.iconst 0, 1) := by decide +kernel
theorem dX7_comeTo_1 : decode cX7_comeTo 1 = .ok (.istore_n 2, 1) := by decide +kernel
theorem dX7_comeTo_2 : decode cX7_comeTo 2 = .ok (.iconst 0, 1) := by decide +kernel
theorem dX7_comeTo_3 : decode cX7_comeTo 3 = .ok (.istore_n 3, 1) := by decide +kernel
theorem dX7_comeTo_4 : decode cX7_comeTo 4 = .ok (.iload_n 3, 1) := by decide +kernel
theorem dX7_comeTo_5 : decode cX7_comeTo 5 = .ok (.aload_n 0, 1) := by decide +kernel
theorem dX7_comeTo_6 : decode cX7_comeTo 6 = .ok (.getfield 96, 3) := by decide +kernel
theorem dX7_comeTo_9 : decode cX7_comeTo 9 = .ok (.if_icmp .ge 30, 3) := by decide +kernel
theorem dX7_comeTo_12 : decode cX7_comeTo 12 = .ok (.iload_n 2, 1) := by decide +kernel
theorem dX7_comeTo_13 : decode cX7_comeTo 13 = .ok (.iload_n 1, 1) := by decide +kernel
theorem dX7_comeTo_14 : decode cX7_comeTo 14 = .ok (.iload_n 3, 1) := by decide +kernel
theorem dX7_comeTo_15 : decode cX7_comeTo 15 = .ok (.invokestatic 108, 3) := by decide +kernel
theorem dX7_comeTo_18 : decode cX7_comeTo 18 = .ok (.ifCond .eq 12, 3) := by decide +kernel
theorem dX7_comeTo_21 : decode cX7_comeTo 21 = .ok (.aload_n 0, 1) := by decide +kernel
theorem dX7_comeTo_22 : decode cX7_comeTo 22 = .ok (.getfield 49, 3) := by decide +kernel
theorem dX7_comeTo_25 : decode cX7_comeTo 25 = .ok (.iload_n 3, 1) := by decide +kernel
theorem dX7_comeTo_26 : decode cX7_comeTo 26 = .ok (.iaload, 1) := by decide +kernel
theorem dX7_comeTo_27 : decode cX7_comeTo 27 = .ok (.goto 4, 3) := by decide +kernel
theorem dX7_comeTo_30 : decode cX7_comeTo 30 = .ok (.iconst 0, 1) := by decide +kernel
theorem dX7_comeTo_31 : decode cX7_comeTo 31 = .ok (.ior, 1) := by decide +kernel
theorem dX7_comeTo_32 : decode cX7_comeTo 32 = .ok (.istore_n 2, 1) := by decide +kernel
theorem dX7_comeTo_33 : decode cX7_comeTo 33 = .ok (.iinc 3 1, 3) := by decide +kernel
theorem dX7_comeTo_36 : decode cX7_comeTo 36 = .ok (.goto (-32), 3) := by decide +kernel
theorem dX7_comeTo_39 : decode cX7_comeTo 39 = .ok (.iload_n 2, 1) := by decide +kernel
theorem dX7_comeTo_40 : decode cX7_comeTo 40 = .ok (.invokestatic 189, 3) := by decide +kernel
theorem dX7_comeTo_43 : decode cX7_comeTo 43 = .ok (.ireturn, 1) := by decide +kernel
set_option maxRecDepth 20000 in
theorem ggX7_share_X7_isTraveller : GoodIn wsX7_share wsX7_isTraveller := goodIn_r _ [7, 1, 8, 9, 6, 10, 80, 81, 82, 83, 84, 85, 86, 87, 88, 89, 90, 91, 92, 93, 94, 95, 96, 97, 98, 99, 100, 101, 102, 103, 104, 105, 106, 107, 108, 109] (by decide +kernel) (by decide +kernel)
set_option maxRecDepth 20000 in
theorem gX7_share_X7_isTraveller : GoodIn wsX7_share (wsV RX7 126 RX7 yX7_isTraveller wsX7_isTraveller) := goodIn_app (goodIn_of _ (by decide +kernel)) ggX7_share_X7_isTraveller
set_option maxRecDepth 20000 in
theorem ggX7_share_X7_reachNow : GoodIn wsX7_share wsX7_reachNow := goodIn_r _ [14, 15, 16, 17, 18, 6, 19, 20, 21, 22, 23, 24, 25, 26, 27, 28, 29, 30, 31, 32, 33, 34, 35, 36, 37, 38, 39, 40, 41, 42, 43, 44, 45, 46, 47, 8, 9, 10, 48, 49, 50, 51, 52, 53, 54, 55, 56, 57, 58, 59, 60, 61, 62, 63, 64, 65, 66, 80, 81, 82, 83, 84, 85, 86, 87, 88, 89, 90, 91, 92, 93, 94, 95, 96, 97, 98, 99, 100, 101, 102, 103, 104, 105, 106, 107, 108, 109] (by decide +kernel) (by decide +kernel)
set_option maxRecDepth 20000 in
theorem gX7_share_X7_reachNow : GoodIn wsX7_share (wsV RX7 182 RX7 yX7_reachNow wsX7_reachNow) := goodIn_app (goodIn_of _ (by decide +kernel)) ggX7_share_X7_reachNow
set_option maxRecDepth 20000 in
theorem ggX7_share_X7_has : GoodIn wsX7_share wsX7_has := goodIn_r _ [56] (by decide +kernel) (by decide +kernel)
set_option maxRecDepth 20000 in
theorem gX7_share_X7_has : GoodIn wsX7_share (va_wsS RX7 108 yX7_has wsX7_has) := goodIn_app (goodIn_of _ (by decide +kernel)) ggX7_share_X7_has
set_option maxRecDepth 20000 in
theorem ggX7_share_X7_ones : GoodIn wsX7_share wsX7_ones := goodIn_r _ [69] (by decide +kernel) (by decide +kernel)
set_option maxRecDepth 20000 in
theorem gX7_share_X7_ones : GoodIn wsX7_share (va_wsS RX7 189 yX7_ones wsX7_ones) := goodIn_app (goodIn_of _ (by decide +kernel)) ggX7_share_X7_ones
set_option maxRecDepth 20000 in
theorem ggX7_share_X7_factorial : GoodIn wsX7_share wsX7_factorial := goodIn_r _ [72] (by decide +kernel) (by decide +kernel)
set_option maxRecDepth 20000 in
theorem gX7_share_X7_factorial : GoodIn wsX7_share (va_wsS RX7 215 yX7_factorial wsX7_factorial) := goodIn_app (goodIn_of _ (by decide +kernel)) ggX7_share_X7_factorial
set_option maxRecDepth 20000 in
theorem ggX7_share_X7_comeTo : GoodIn wsX7_share wsX7_comeTo := goodIn_r _ [76, 1, 2, 54, 55, 6, 56, 67, 68, 69, 80, 81, 82, 83, 84, 85, 86, 87, 88, 89, 90, 91, 92, 93, 94, 95, 96, 97, 98, 99, 100, 101, 102, 103, 104, 105, 106, 107, 108, 109] (by decide +kernel) (by decide +kernel)
set_option maxRecDepth 20000 in
theorem gX7_share_X7_comeTo : GoodIn wsX7_share (wsV RX7 218 RX7 yX7_comeTo wsX7_comeTo) := goodIn_app (goodIn_of _ (by decide +kernel)) ggX7_share_X7_comeTo
set_option maxRecDepth 20000 in
theorem ggX7_share_X7_common : GoodIn wsX7_share wsX7_common := goodIn_r _ [79] (by decide +kernel) (by decide +kernel)
set_option maxRecDepth 20000 in
theorem gX7_share_X7_common : GoodIn wsX7_share (va_wsS RX7 221 yX7_common wsX7_common) := goodIn_app (goodIn_of _ (by decide +kernel)) ggX7_share_X7_common
theorem dX7_share_0 : decode cX7_share 0 = .ok (.aload_n 0, 1) := by decide +kernel
theorem dX7_share_1 : decode cX7_share 1 = .ok (.iload_n 1, 1) := by decide +kernel
theorem dX7_share_2 : decode cX7_share 2 = .ok (.invokevirtual 126, 3) := by decide +kernel
theorem dX7_share_5 : decode cX7_share 5 = .ok (.ifCond .ne 5, 3) := by decide +kernel
theorem dX7_share_8 : decode cX7_share 8 = .ok (.iconst (-1), 1) := by decide +kernel
theorem dX7_share_9 : decode cX7_share 9 = .ok (.ireturn, 1) := by decide +kernel
theorem dX7_share_10 : decode cX7_share 10 = .ok (.iconst 0, 1) := by decide +kernel
theorem dX7_share_11 : decode cX7_share 11 = .ok (.istore_n 3, 1) := by decide +kernel
theorem dX7_share_12 : decode cX7_share 12 = .ok (.iload_n 3, 1) := by decide +kernel
theorem dX7_share_13 : decode cX7_share 13 = .ok (.aload_n 0, 1) := by decide +kernel
theorem dX7_share_14 : decode cX7_share 14 = .ok (.getfield 96, 3) := by decide +kernel
theorem dX7_share_17 : decode cX7_share 17 = .ok (.if_icmp .ge 20, 3) := by decide +kernel
theorem dX7_share_20 : decode cX7_share 20 = .ok (.aload_n 0, 1) := by decide +kernel
theorem dX7_share_21 : decode cX7_share 21 = .ok (.getfield 49, 3) := by decide +kernel
theorem dX7_share_24 : decode cX7_share 24 = .ok (.iload_n 3, 1) := by decide +kernel
theorem dX7_share_25 : decode cX7_share 25 = .ok (.aload_n 0, 1) := by decide +kernel
theorem dX7_share_26 : decode cX7_share 26 = .ok (.iload_n 3, 1) := by decide +kernel
theorem dX7_share_27 : decode cX7_share 27 = .ok (.invokevirtual 182, 3) := by decide +kernel
theorem dX7_share_30 : decode cX7_share 30 = .ok (.iastore, 1) := by decide +kernel
theorem dX7_share_31 : decode cX7_share 31 = .ok (.iinc 3 1, 3) := by decide +kernel
theorem dX7_share_34 : decode cX7_share 34 = .ok (.goto (-22), 3) := by decide +kernel
theorem dX7_share_37 : decode cX7_share 37 = .ok (.iconst 0, 1) := by decide +kernel
theorem dX7_share_38 : decode cX7_share 38 = .ok (.istore_n 3, 1) := by decide +kernel
theorem dX7_share_39 : decode cX7_share 39 = .ok (.iconst 0, 1) := by decide +kernel
theorem dX7_share_40 : decode cX7_share 40 = .ok (.istore 4, 2) := by decide +kernel
theorem dX7_share_42 : decode cX7_share 42 = .ok (.iload 4, 2) := by decide +kernel
theorem dX7_share_44 : decode cX7_share 44 = .ok (.iconst 1, 1) := by decide +kernel
theorem dX7_share_45 : decode cX7_share 45 = .ok (.aload_n 0, 1) := by decide +kernel
theorem dX7_share_46 : decode cX7_share 46 = .ok (.getfield 96, 3) := by decide +kernel
theorem dX7_share_49 : decode cX7_share 49 = .ok (.ishl, 1) := by decide +kernel
theorem dX7_share_50 : decode cX7_share 50 = .ok (.if_icmp .ge 67, 3) := by decide +kernel
theorem dX7_share_53 : decode cX7_share 53 = .ok (.iload 4, 2) := by decide +kernel
theorem dX7_share_55 : decode cX7_share 55 = .ok (.iload_n 1, 1) := by decide +kernel
theorem dX7_share_56 : decode cX7_share 56 = .ok (.invokestatic 108, 3) := by decide +kernel
theorem dX7_share_59 : decode cX7_share 59 = .ok (.ifCond .ne 52, 3) := by decide +kernel
theorem dX7_share_62 : decode cX7_share 62 = .ok (.iload 4, 2) := by decide +kernel
theorem dX7_share_64 : decode cX7_share 64 = .ok (.invokestatic 189, 3) := by decide +kernel
theorem dX7_share_67 : decode cX7_share 67 = .ok (.invokestatic 215, 3) := by decide +kernel
theorem dX7_share_70 : decode cX7_share 70 = .ok (.aload_n 0, 1) := by decide +kernel
theorem dX7_share_71 : decode cX7_share 71 = .ok (.getfield 96, 3) := by decide +kernel
theorem dX7_share_74 : decode cX7_share 74 = .ok (.iconst 1, 1) := by decide +kernel
theorem dX7_share_75 : decode cX7_share 75 = .ok (.isub, 1) := by decide +kernel
theorem dX7_share_76 : decode cX7_share 76 = .ok (.iload 4, 2) := by decide +kernel
theorem dX7_share_78 : decode cX7_share 78 = .ok (.invokestatic 189, 3) := by decide +kernel
theorem dX7_share_81 : decode cX7_share 81 = .ok (.isub, 1) := by decide +kernel
theorem dX7_share_82 : decode cX7_share 82 = .ok (.invokestatic 215, 3) := by decide +kernel
theorem dX7_share_85 : decode cX7_share 85 = .ok (.imul, 1) := by decide +kernel
theorem dX7_share_86 : decode cX7_share 86 = .ok (.istore 5, 2) := by decide +kernel
theorem dX7_share_88 : decode cX7_share 88 = .ok (.iload_n 3, 1) := by decide +kernel
theorem dX7_share_89 : decode cX7_share 89 = .ok (.iload 5, 2) := by decide +kernel
theorem dX7_share_91 : decode cX7_share 91 = .ok (.aload_n 0, 1) := by decide +kernel
theorem dX7_share_92 : decode cX7_share 92 = .ok (.iload 4, 2) := by decide +kernel
theorem dX7_share_94 : decode cX7_share 94 = .ok (.iconst 1, 1) := by decide +kernel
theorem dX7_share_95 : decode cX7_share 95 = .ok (.iload_n 1, 1) := by decide +kernel
theorem dX7_share_96 : decode cX7_share 96 = .ok (.ishl, 1) := by decide +kernel
theorem dX7_share_97 : decode cX7_share 97 = .ok (.ior, 1) := by decide +kernel
theorem dX7_share_98 : decode cX7_share 98 = .ok (.invokevirtual 218, 3) := by decide +kernel
theorem dX7_share_101 : decode cX7_share 101 = .ok (.aload_n 0, 1) := by decide +kernel
theorem dX7_share_102 : decode cX7_share 102 = .ok (.iload 4, 2) := by decide +kernel
theorem dX7_share_104 : decode cX7_share 104 = .ok (.invokevirtual 218, 3) := by decide +kernel
theorem dX7_share_107 : decode cX7_share 107 = .ok (.isub, 1) := by decide +kernel
theorem dX7_share_108 : decode cX7_share 108 = .ok (.imul, 1) := by decide +kernel
theorem dX7_share_109 : decode cX7_share 109 = .ok (.iadd, 1) := by decide +kernel
theorem dX7_share_110 : decode cX7_share 110 = .ok (.istore_n 3, 1) := by decide +kernel
theorem dX7_share_111 : decode cX7_share 111 = .ok (.iinc 4 1, 3) := by decide +kernel
theorem dX7_share_114 : decode cX7_share 114 = .ok (.goto (-72), 3) := by decide +kernel
theorem dX7_share_117 : decode cX7_share 117 = .ok (.iload_n 3, 1) := by decide +kernel
theorem dX7_share_118 : decode cX7_share 118 = .ok (.aload_n 0, 1) := by decide +kernel
theorem dX7_share_119 : decode cX7_share 119 = .ok (.getfield 96, 3) := by decide +kernel
theorem dX7_share_122 : decode cX7_share 122 = .ok (.invokestatic 215, 3) := by decide +kernel
theorem dX7_share_125 : decode cX7_share 125 = .ok (.invokestatic 221, 3) := by decide +kernel
theorem dX7_share_128 : decode cX7_share 128 = .ok (.istore 4, 2) := by decide +kernel
theorem dX7_share_130 : decode cX7_share 130 = .ok (.iload_n 2, 1) := by decide +kernel
theorem dX7_share_131 : decode cX7_share 131 = .ok (.ifCond .eq 10, 3) := by decide +kernel
theorem dX7_share_134 : decode cX7_share 134 = .ok (.iload_n 3, 1) := by decide +kernel
theorem dX7_share_135 : decode cX7_share 135 = .ok (.iload 4, 2) := by decide +kernel
theorem dX7_share_137 : decode cX7_share 137 = .ok (.idiv, 1) := by decide +kernel
theorem dX7_share_138 : decode cX7_share 138 = .ok (.goto 13, 3) := by decide +kernel
theorem dX7_share_141 : decode cX7_share 141 = .ok (.aload_n 0, 1) := by decide +kernel
theorem dX7_share_142 : decode cX7_share 142 = .ok (.getfield 96, 3) := by decide +kernel
theorem dX7_share_145 : decode cX7_share 145 = .ok (.invokestatic 215, 3) := by decide +kernel
theorem dX7_share_148 : decode cX7_share 148 = .ok (.iload 4, 2) := by decide +kernel
theorem dX7_share_150 : decode cX7_share 150 = .ok (.idiv, 1) := by decide +kernel
theorem dX7_share_151 : decode cX7_share 151 = .ok (.ireturn, 1) := by decide +kernel
set_option maxRecDepth 20000 in
theorem ggX7_choose_X7_canStep : GoodIn wsX7_choose wsX7_canStep := goodIn_r _ [5, 6, 7, 8, 9, 4, 10, 11, 12, 13, 14, 15, 16, 17, 18, 19, 20, 21, 22, 23, 24, 25, 26, 27, 28, 29, 30, 31, 32, 33, 34, 35, 36, 37, 38, 39, 40, 41, 42, 43, 44, 50, 51, 52, 53, 54, 55, 56, 57, 58, 59, 60, 61, 62, 63, 64, 65, 66, 67, 68, 69, 70, 71, 72, 73, 74, 75, 76, 77, 78, 79] (by decide +kernel) (by decide +kernel)
set_option maxRecDepth 20000 in
theorem gX7_choose_X7_canStep : GoodIn wsX7_choose (wsV RX7 146 RX7 yX7_canStep wsX7_canStep) := goodIn_app (goodIn_of _ (by decide +kernel)) ggX7_choose_X7_canStep
set_option maxRecDepth 20000 in
theorem ggX7_choose_X7_stepOn : GoodIn wsX7_choose wsX7_stepOn := goodIn_r _ [48, 6, 34, 49, 28, 15, 16, 17, 4, 18, 19, 20, 21, 22, 23, 12, 13, 14, 24, 25, 26, 27, 29, 30, 31, 32, 33, 35, 36, 37, 38, 39, 40, 41, 42, 43, 44, 50, 51, 52, 53, 54, 55, 56, 57, 58, 59, 60, 61, 62, 63, 64, 65, 66, 67, 68, 69, 70, 71, 72, 73, 74, 75, 76, 77, 78, 79] (by decide +kernel) (by decide +kernel)
set_option maxRecDepth 20000 in
theorem gX7_choose_X7_stepOn : GoodIn wsX7_choose (wsV RX7 153 RX7 yX7_stepOn wsX7_stepOn) := goodIn_app (goodIn_of _ (by decide +kernel)) ggX7_choose_X7_stepOn
theorem dX7_choose_0 : decode cX7_choose 0 = .ok (.iload_n 2, 1) := by decide +kernel
theorem dX7_choose_1 : decode cX7_choose 1 = .ok (.iconst 2, 1) := by decide +kernel
theorem dX7_choose_2 : decode cX7_choose 2 = .ok (.if_icmp .ge 26, 3) := by decide +kernel
theorem dX7_choose_5 : decode cX7_choose 5 = .ok (.aload_n 0, 1) := by decide +kernel
theorem dX7_choose_6 : decode cX7_choose 6 = .ok (.iconst 1, 1) := by decide +kernel
theorem dX7_choose_7 : decode cX7_choose 7 = .ok (.iload_n 1, 1) := by decide +kernel
theorem dX7_choose_8 : decode cX7_choose 8 = .ok (.iload_n 2, 1) := by decide +kernel
theorem dX7_choose_9 : decode cX7_choose 9 = .ok (.iconst 1, 1) := by decide +kernel
theorem dX7_choose_10 : decode cX7_choose 10 = .ok (.if_icmp .ne 7, 3) := by decide +kernel
theorem dX7_choose_13 : decode cX7_choose 13 = .ok (.iconst 1, 1) := by decide +kernel
theorem dX7_choose_14 : decode cX7_choose 14 = .ok (.goto 4, 3) := by decide +kernel
theorem dX7_choose_17 : decode cX7_choose 17 = .ok (.iconst 0, 1) := by decide +kernel
theorem dX7_choose_18 : decode cX7_choose 18 = .ok (.invokevirtual 146, 3) := by decide +kernel
theorem dX7_choose_21 : decode cX7_choose 21 = .ok (.ifCond .eq 7, 3) := by decide +kernel
theorem dX7_choose_24 : decode cX7_choose 24 = .ok (.iconst 1, 1) := by decide +kernel
theorem dX7_choose_25 : decode cX7_choose 25 = .ok (.goto 4, 3) := by decide +kernel
theorem dX7_choose_28 : decode cX7_choose 28 = .ok (.iconst 0, 1) := by decide +kernel
theorem dX7_choose_29 : decode cX7_choose 29 = .ok (.istore_n 3, 1) := by decide +kernel
theorem dX7_choose_30 : decode cX7_choose 30 = .ok (.iload_n 3, 1) := by decide +kernel
theorem dX7_choose_31 : decode cX7_choose 31 = .ok (.ifCond .eq 19, 3) := by decide +kernel
theorem dX7_choose_34 : decode cX7_choose 34 = .ok (.aload_n 0, 1) := by decide +kernel
theorem dX7_choose_35 : decode cX7_choose 35 = .ok (.iconst 1, 1) := by decide +kernel
theorem dX7_choose_36 : decode cX7_choose 36 = .ok (.iload_n 1, 1) := by decide +kernel
theorem dX7_choose_37 : decode cX7_choose 37 = .ok (.iload_n 2, 1) := by decide +kernel
theorem dX7_choose_38 : decode cX7_choose 38 = .ok (.iconst 1, 1) := by decide +kernel
theorem dX7_choose_39 : decode cX7_choose 39 = .ok (.if_icmp .ne 7, 3) := by decide +kernel
theorem dX7_choose_42 : decode cX7_choose 42 = .ok (.iconst 1, 1) := by decide +kernel
theorem dX7_choose_43 : decode cX7_choose 43 = .ok (.goto 4, 3) := by decide +kernel
theorem dX7_choose_46 : decode cX7_choose 46 = .ok (.iconst 0, 1) := by decide +kernel
theorem dX7_choose_47 : decode cX7_choose 47 = .ok (.invokevirtual 153, 3) := by decide +kernel
theorem dX7_choose_50 : decode cX7_choose 50 = .ok (.iload_n 3, 1) := by decide +kernel
theorem dX7_choose_51 : decode cX7_choose 51 = .ok (.ireturn, 1) := by decide +kernel
set_option maxRecDepth 20000 in
theorem ggX7_gain_X7_layTrial : GoodIn wsX7_gain wsX7_layTrial := goodIn_r _ [6, 1, 82, 83, 84, 85, 86, 87, 88, 89, 90, 91, 92, 93, 94, 95, 96, 97, 98, 99, 100, 101, 102, 103, 104, 105, 106, 107, 108, 109, 110, 111] (by decide +kernel) (by decide +kernel)
set_option maxRecDepth 20000 in
theorem gX7_gain_X7_layTrial : GoodIn wsX7_gain (wsV RX7 200 RX7 yX7_layTrial wsX7_layTrial) := goodIn_app (goodIn_of _ (by decide +kernel)) ggX7_gain_X7_layTrial
set_option maxRecDepth 20000 in
theorem ggX7_gain_X7_choose : GoodIn wsX7_gain wsX7_choose := goodIn_r _ [10, 11, 12, 13, 5, 14, 1, 15, 16, 17, 18, 19, 20, 21, 22, 23, 24, 25, 26, 27, 28, 29, 30, 31, 32, 33, 34, 35, 36, 37, 38, 39, 40, 41, 42, 43, 44, 45, 46, 47, 48, 49, 50, 51, 52, 53, 54, 55, 56, 57, 82, 83, 84, 85, 86, 87, 88, 89, 90, 91, 92, 93, 94, 95, 96, 97, 98, 99, 100, 101, 102, 103, 104, 105, 106, 107, 108, 109, 110, 111] (by decide +kernel) (by decide +kernel)
set_option maxRecDepth 20000 in
theorem gX7_gain_X7_choose : GoodIn wsX7_gain (wsV RX7 224 RX7 yX7_choose wsX7_choose) := goodIn_app (goodIn_of _ (by decide +kernel)) ggX7_gain_X7_choose
set_option maxRecDepth 20000 in
theorem ggX7_gain_X7_reachOn : GoodIn wsX7_gain wsX7_reachOn := goodIn_r _ [61, 62, 63, 64, 65, 66, 5, 67, 68, 69, 1, 70, 71, 72, 73, 74, 75, 76, 77, 36, 42, 57, 23, 24, 25, 26, 27, 28, 29, 30, 31, 20, 21, 22, 37, 38, 39, 40, 41, 43, 44, 45, 46, 47, 48, 49, 50, 51, 52, 78, 79, 80, 81, 82, 83, 84, 85, 86, 87, 88, 89, 90, 91, 92, 93, 94, 95, 96, 97, 98, 99, 100, 101, 102, 103, 104, 105, 106, 107, 108, 109, 110, 111] (by decide +kernel) (by decide +kernel)
set_option maxRecDepth 20000 in
theorem gX7_gain_X7_reachOn : GoodIn wsX7_gain (wsV RX7 179 RX7 yX7_reachOn wsX7_reachOn) := goodIn_app (goodIn_of _ (by decide +kernel)) ggX7_gain_X7_reachOn
set_option maxRecDepth 20000 in
theorem ggX7_gain_X7_has : GoodIn wsX7_gain wsX7_has := goodIn_r _ [46] (by decide +kernel) (by decide +kernel)
set_option maxRecDepth 20000 in
theorem gX7_gain_X7_has : GoodIn wsX7_gain (va_wsS RX7 108 yX7_has wsX7_has) := goodIn_app (goodIn_of _ (by decide +kernel)) ggX7_gain_X7_has
theorem dX7_gain_0 : decode cX7_gain 0 = .ok (.aload_n 0, 1) := by decide +kernel
theorem dX7_gain_1 : decode cX7_gain 1 = .ok (.invokevirtual 200, 3) := by decide +kernel
theorem dX7_gain_4 : decode cX7_gain 4 = .ok (.aload_n 0, 1) := by decide +kernel
theorem dX7_gain_5 : decode cX7_gain 5 = .ok (.iload_n 1, 1) := by decide +kernel
theorem dX7_gain_6 : decode cX7_gain 6 = .ok (.iload_n 3, 1) := by decide +kernel
theorem dX7_gain_7 : decode cX7_gain 7 = .ok (.invokevirtual 224, 3) := by decide +kernel
theorem dX7_gain_10 : decode cX7_gain 10 = .ok (.istore 6, 2) := by decide +kernel
theorem dX7_gain_12 : decode cX7_gain 12 = .ok (.aload_n 0, 1) := by decide +kernel
theorem dX7_gain_13 : decode cX7_gain 13 = .ok (.iload_n 2, 1) := by decide +kernel
theorem dX7_gain_14 : decode cX7_gain 14 = .ok (.iload 4, 2) := by decide +kernel
theorem dX7_gain_16 : decode cX7_gain 16 = .ok (.invokevirtual 224, 3) := by decide +kernel
theorem dX7_gain_19 : decode cX7_gain 19 = .ok (.istore 7, 2) := by decide +kernel
theorem dX7_gain_21 : decode cX7_gain 21 = .ok (.iload 5, 2) := by decide +kernel
theorem dX7_gain_23 : decode cX7_gain 23 = .ok (.ifCond .eq 7, 3) := by decide +kernel
theorem dX7_gain_26 : decode cX7_gain 26 = .ok (.iload_n 1, 1) := by decide +kernel
theorem dX7_gain_27 : decode cX7_gain 27 = .ok (.goto 4, 3) := by decide +kernel
theorem dX7_gain_30 : decode cX7_gain 30 = .ok (.iload_n 2, 1) := by decide +kernel
theorem dX7_gain_31 : decode cX7_gain 31 = .ok (.istore 8, 2) := by decide +kernel
theorem dX7_gain_33 : decode cX7_gain 33 = .ok (.iload 5, 2) := by decide +kernel
theorem dX7_gain_35 : decode cX7_gain 35 = .ok (.ifCond .eq 7, 3) := by decide +kernel
theorem dX7_gain_38 : decode cX7_gain 38 = .ok (.iload_n 2, 1) := by decide +kernel
theorem dX7_gain_39 : decode cX7_gain 39 = .ok (.goto 4, 3) := by decide +kernel
theorem dX7_gain_42 : decode cX7_gain 42 = .ok (.iload_n 1, 1) := by decide +kernel
theorem dX7_gain_43 : decode cX7_gain 43 = .ok (.istore 9, 2) := by decide +kernel
theorem dX7_gain_45 : decode cX7_gain 45 = .ok (.aload_n 0, 1) := by decide +kernel
theorem dX7_gain_46 : decode cX7_gain 46 = .ok (.getfield 22, 3) := by decide +kernel
theorem dX7_gain_49 : decode cX7_gain 49 = .ok (.bipush 14, 2) := by decide +kernel
theorem dX7_gain_51 : decode cX7_gain 51 = .ok (.iload 8, 2) := by decide +kernel
theorem dX7_gain_53 : decode cX7_gain 53 = .ok (.iadd, 1) := by decide +kernel
theorem dX7_gain_54 : decode cX7_gain 54 = .ok (.iaload, 1) := by decide +kernel
theorem dX7_gain_55 : decode cX7_gain 55 = .ok (.aload_n 0, 1) := by decide +kernel
theorem dX7_gain_56 : decode cX7_gain 56 = .ok (.getfield 22, 3) := by decide +kernel
theorem dX7_gain_59 : decode cX7_gain 59 = .ok (.bipush 14, 2) := by decide +kernel
theorem dX7_gain_61 : decode cX7_gain 61 = .ok (.iload 9, 2) := by decide +kernel
theorem dX7_gain_63 : decode cX7_gain 63 = .ok (.iadd, 1) := by decide +kernel
theorem dX7_gain_64 : decode cX7_gain 64 = .ok (.iaload, 1) := by decide +kernel
theorem dX7_gain_65 : decode cX7_gain 65 = .ok (.if_icmp .eq 7, 3) := by decide +kernel
theorem dX7_gain_68 : decode cX7_gain 68 = .ok (.iconst 1, 1) := by decide +kernel
theorem dX7_gain_69 : decode cX7_gain 69 = .ok (.goto 4, 3) := by decide +kernel
theorem dX7_gain_72 : decode cX7_gain 72 = .ok (.iconst 0, 1) := by decide +kernel
theorem dX7_gain_73 : decode cX7_gain 73 = .ok (.istore 10, 2) := by decide +kernel
theorem dX7_gain_75 : decode cX7_gain 75 = .ok (.iload 10, 2) := by decide +kernel
theorem dX7_gain_77 : decode cX7_gain 77 = .ok (.ifCond .eq 37, 3) := by decide +kernel
theorem dX7_gain_80 : decode cX7_gain 80 = .ok (.aload_n 0, 1) := by decide +kernel
theorem dX7_gain_81 : decode cX7_gain 81 = .ok (.iconst 1, 1) := by decide +kernel
theorem dX7_gain_82 : decode cX7_gain 82 = .ok (.iload 8, 2) := by decide +kernel
theorem dX7_gain_84 : decode cX7_gain 84 = .ok (.aload_n 0, 1) := by decide +kernel
theorem dX7_gain_85 : decode cX7_gain 85 = .ok (.getfield 22, 3) := by decide +kernel
theorem dX7_gain_88 : decode cX7_gain 88 = .ok (.bipush 24, 2) := by decide +kernel
theorem dX7_gain_90 : decode cX7_gain 90 = .ok (.iaload, 1) := by decide +kernel
theorem dX7_gain_91 : decode cX7_gain 91 = .ok (.invokevirtual 179, 3) := by decide +kernel
theorem dX7_gain_94 : decode cX7_gain 94 = .ok (.aload_n 0, 1) := by decide +kernel
theorem dX7_gain_95 : decode cX7_gain 95 = .ok (.getfield 22, 3) := by decide +kernel
theorem dX7_gain_98 : decode cX7_gain 98 = .ok (.bipush 14, 2) := by decide +kernel
theorem dX7_gain_100 : decode cX7_gain 100 = .ok (.iload 9, 2) := by decide +kernel
theorem dX7_gain_102 : decode cX7_gain 102 = .ok (.iadd, 1) := by decide +kernel
theorem dX7_gain_103 : decode cX7_gain 103 = .ok (.iaload, 1) := by decide +kernel
theorem dX7_gain_104 : decode cX7_gain 104 = .ok (.invokestatic 108, 3) := by decide +kernel
theorem dX7_gain_107 : decode cX7_gain 107 = .ok (.ifCond .eq 7, 3) := by decide +kernel
theorem dX7_gain_110 : decode cX7_gain 110 = .ok (.iconst 1, 1) := by decide +kernel
theorem dX7_gain_111 : decode cX7_gain 111 = .ok (.goto 4, 3) := by decide +kernel
theorem dX7_gain_114 : decode cX7_gain 114 = .ok (.iconst 0, 1) := by decide +kernel
theorem dX7_gain_115 : decode cX7_gain 115 = .ok (.istore 11, 2) := by decide +kernel
theorem dX7_gain_117 : decode cX7_gain 117 = .ok (.iload 10, 2) := by decide +kernel
theorem dX7_gain_119 : decode cX7_gain 119 = .ok (.ifCond .eq 7, 3) := by decide +kernel
theorem dX7_gain_122 : decode cX7_gain 122 = .ok (.iconst 2, 1) := by decide +kernel
theorem dX7_gain_123 : decode cX7_gain 123 = .ok (.goto 4, 3) := by decide +kernel
theorem dX7_gain_126 : decode cX7_gain 126 = .ok (.iconst 0, 1) := by decide +kernel
theorem dX7_gain_127 : decode cX7_gain 127 = .ok (.iload 5, 2) := by decide +kernel
theorem dX7_gain_129 : decode cX7_gain 129 = .ok (.ifCond .eq 11, 3) := by decide +kernel
theorem dX7_gain_132 : decode cX7_gain 132 = .ok (.iload 6, 2) := by decide +kernel
theorem dX7_gain_134 : decode cX7_gain 134 = .ok (.ifCond .eq 15, 3) := by decide +kernel
theorem dX7_gain_137 : decode cX7_gain 137 = .ok (.goto 8, 3) := by decide +kernel
theorem dX7_gain_140 : decode cX7_gain 140 = .ok (.iload 7, 2) := by decide +kernel
theorem dX7_gain_142 : decode cX7_gain 142 = .ok (.ifCond .eq 7, 3) := by decide +kernel
theorem dX7_gain_145 : decode cX7_gain 145 = .ok (.iconst 1, 1) := by decide +kernel
theorem dX7_gain_146 : decode cX7_gain 146 = .ok (.goto 4, 3) := by decide +kernel
theorem dX7_gain_149 : decode cX7_gain 149 = .ok (.iconst 0, 1) := by decide +kernel
theorem dX7_gain_150 : decode cX7_gain 150 = .ok (.iadd, 1) := by decide +kernel
theorem dX7_gain_151 : decode cX7_gain 151 = .ok (.iload 11, 2) := by decide +kernel
theorem dX7_gain_153 : decode cX7_gain 153 = .ok (.ifCond .eq 7, 3) := by decide +kernel
theorem dX7_gain_156 : decode cX7_gain 156 = .ok (.iconst 4, 1) := by decide +kernel
theorem dX7_gain_157 : decode cX7_gain 157 = .ok (.goto 4, 3) := by decide +kernel
theorem dX7_gain_160 : decode cX7_gain 160 = .ok (.iconst 0, 1) := by decide +kernel
theorem dX7_gain_161 : decode cX7_gain 161 = .ok (.iadd, 1) := by decide +kernel
theorem dX7_gain_162 : decode cX7_gain 162 = .ok (.ireturn, 1) := by decide +kernel
set_option maxRecDepth 20000 in
theorem ggX7_isRest_X7_gain : GoodIn wsX7_isRest wsX7_gain := goodIn_r _ [5, 6, 7, 8, 9, 4, 10, 11, 12, 13, 14, 15, 16, 17, 18, 19, 20, 21, 22, 23, 24, 25, 26, 27, 28, 29, 30, 31, 32, 33, 34, 35, 36, 37, 38, 39, 40, 41, 42, 43, 44, 45, 46, 47, 48, 49, 50, 51, 52, 53, 54, 55, 56, 57, 58, 59, 60, 61, 62, 63, 64, 65, 66, 67, 68, 69, 70, 71, 72, 73, 74, 75, 76, 77, 78, 79, 80, 81, 82, 83, 84, 85, 86, 87, 88, 89, 90, 91, 92, 93, 94, 95, 96, 97, 98, 99, 100, 101, 102, 103, 104, 105, 106, 107, 108, 109, 110, 111, 112, 113, 114, 115] (by decide +kernel) (by decide +kernel)
set_option maxRecDepth 20000 in
theorem gX7_isRest_X7_gain : GoodIn wsX7_isRest (wsV RX7 227 RX7 yX7_gain wsX7_gain) := goodIn_app (goodIn_of _ (by decide +kernel)) ggX7_isRest_X7_gain
theorem dX7_isRest_0 : decode cX7_isRest 0 = .ok (.iconst 1, 1) := by decide +kernel
theorem dX7_isRest_1 : decode cX7_isRest 1 = .ok (.istore 5, 2) := by decide +kernel
theorem dX7_isRest_3 : decode cX7_isRest 3 = .ok (.iconst 0, 1) := by decide +kernel
theorem dX7_isRest_4 : decode cX7_isRest 4 = .ok (.istore 6, 2) := by decide +kernel
theorem dX7_isRest_6 : decode cX7_isRest 6 = .ok (.iload 6, 2) := by decide +kernel
theorem dX7_isRest_8 : decode cX7_isRest 8 = .ok (.iconst 3, 1) := by decide +kernel
theorem dX7_isRest_9 : decode cX7_isRest 9 = .ok (.if_icmp .ge 68, 3) := by decide +kernel
theorem dX7_isRest_12 : decode cX7_isRest 12 = .ok (.iload 5, 2) := by decide +kernel
theorem dX7_isRest_14 : decode cX7_isRest 14 = .ok (.ifCond .eq 54, 3) := by decide +kernel
theorem dX7_isRest_17 : decode cX7_isRest 17 = .ok (.aload_n 0, 1) := by decide +kernel
theorem dX7_isRest_18 : decode cX7_isRest 18 = .ok (.iload_n 1, 1) := by decide +kernel
theorem dX7_isRest_19 : decode cX7_isRest 19 = .ok (.iload_n 2, 1) := by decide +kernel
theorem dX7_isRest_20 : decode cX7_isRest 20 = .ok (.iload 6, 2) := by decide +kernel
theorem dX7_isRest_22 : decode cX7_isRest 22 = .ok (.iload 4, 2) := by decide +kernel
theorem dX7_isRest_24 : decode cX7_isRest 24 = .ok (.iconst 1, 1) := by decide +kernel
theorem dX7_isRest_25 : decode cX7_isRest 25 = .ok (.invokevirtual 227, 3) := by decide +kernel
theorem dX7_isRest_28 : decode cX7_isRest 28 = .ok (.aload_n 0, 1) := by decide +kernel
theorem dX7_isRest_29 : decode cX7_isRest 29 = .ok (.iload_n 1, 1) := by decide +kernel
theorem dX7_isRest_30 : decode cX7_isRest 30 = .ok (.iload_n 2, 1) := by decide +kernel
theorem dX7_isRest_31 : decode cX7_isRest 31 = .ok (.iload_n 3, 1) := by decide +kernel
theorem dX7_isRest_32 : decode cX7_isRest 32 = .ok (.iload 4, 2) := by decide +kernel
theorem dX7_isRest_34 : decode cX7_isRest 34 = .ok (.iconst 1, 1) := by decide +kernel
theorem dX7_isRest_35 : decode cX7_isRest 35 = .ok (.invokevirtual 227, 3) := by decide +kernel
theorem dX7_isRest_38 : decode cX7_isRest 38 = .ok (.if_icmp .gt 30, 3) := by decide +kernel
theorem dX7_isRest_41 : decode cX7_isRest 41 = .ok (.aload_n 0, 1) := by decide +kernel
theorem dX7_isRest_42 : decode cX7_isRest 42 = .ok (.iload_n 1, 1) := by decide +kernel
theorem dX7_isRest_43 : decode cX7_isRest 43 = .ok (.iload_n 2, 1) := by decide +kernel
theorem dX7_isRest_44 : decode cX7_isRest 44 = .ok (.iload_n 3, 1) := by decide +kernel
theorem dX7_isRest_45 : decode cX7_isRest 45 = .ok (.iload 6, 2) := by decide +kernel
theorem dX7_isRest_47 : decode cX7_isRest 47 = .ok (.iconst 0, 1) := by decide +kernel
theorem dX7_isRest_48 : decode cX7_isRest 48 = .ok (.invokevirtual 227, 3) := by decide +kernel
theorem dX7_isRest_51 : decode cX7_isRest 51 = .ok (.aload_n 0, 1) := by decide +kernel
theorem dX7_isRest_52 : decode cX7_isRest 52 = .ok (.iload_n 1, 1) := by decide +kernel
theorem dX7_isRest_53 : decode cX7_isRest 53 = .ok (.iload_n 2, 1) := by decide +kernel
theorem dX7_isRest_54 : decode cX7_isRest 54 = .ok (.iload_n 3, 1) := by decide +kernel
theorem dX7_isRest_55 : decode cX7_isRest 55 = .ok (.iload 4, 2) := by decide +kernel
theorem dX7_isRest_57 : decode cX7_isRest 57 = .ok (.iconst 0, 1) := by decide +kernel
theorem dX7_isRest_58 : decode cX7_isRest 58 = .ok (.invokevirtual 227, 3) := by decide +kernel
theorem dX7_isRest_61 : decode cX7_isRest 61 = .ok (.if_icmp .gt 7, 3) := by decide +kernel
theorem dX7_isRest_64 : decode cX7_isRest 64 = .ok (.iconst 1, 1) := by decide +kernel
theorem dX7_isRest_65 : decode cX7_isRest 65 = .ok (.goto 4, 3) := by decide +kernel
theorem dX7_isRest_68 : decode cX7_isRest 68 = .ok (.iconst 0, 1) := by decide +kernel
theorem dX7_isRest_69 : decode cX7_isRest 69 = .ok (.istore 5, 2) := by decide +kernel
theorem dX7_isRest_71 : decode cX7_isRest 71 = .ok (.iinc 6 1, 3) := by decide +kernel
theorem dX7_isRest_74 : decode cX7_isRest 74 = .ok (.goto (-68), 3) := by decide +kernel
theorem dX7_isRest_77 : decode cX7_isRest 77 = .ok (.iload 5, 2) := by decide +kernel
theorem dX7_isRest_79 : decode cX7_isRest 79 = .ok (.ireturn, 1) := by decide +kernel
set_option maxRecDepth 20000 in
theorem ggX7_rests_X7_isTraveller : GoodIn wsX7_rests wsX7_isTraveller := goodIn_r _ [5, 6, 7, 8, 4, 9, 90, 91, 92, 93, 94, 95, 96, 97, 98, 99, 100, 101, 102, 103, 104, 105, 106, 107, 108, 109, 110, 111, 112, 113, 114, 115, 116, 117, 118, 119] (by decide +kernel) (by decide +kernel)
set_option maxRecDepth 20000 in
theorem gX7_rests_X7_isTraveller : GoodIn wsX7_rests (wsV RX7 126 RX7 yX7_isTraveller wsX7_isTraveller) := goodIn_app (goodIn_of _ (by decide +kernel)) ggX7_rests_X7_isTraveller
set_option maxRecDepth 20000 in
theorem ggX7_rests_X7_in : GoodIn wsX7_rests wsX7_in := goodIn_r _ [9] (by decide +kernel) (by decide +kernel)
set_option maxRecDepth 20000 in
theorem gX7_rests_X7_in : GoodIn wsX7_rests (va_wsS RX7 61 yX7_in wsX7_in) := goodIn_app (goodIn_of _ (by decide +kernel)) ggX7_rests_X7_in
set_option maxRecDepth 20000 in
theorem ggX7_rests_X7_isRest : GoodIn wsX7_rests wsX7_isRest := goodIn_r _ [13, 14, 15, 16, 4, 17, 18, 19, 20, 21, 22, 23, 24, 25, 26, 27, 28, 29, 30, 1, 2, 3, 5, 6, 7, 8, 9, 31, 32, 33, 34, 35, 36, 37, 38, 39, 40, 41, 42, 43, 44, 45, 46, 47, 48, 49, 50, 51, 52, 53, 54, 55, 56, 57, 58, 59, 60, 61, 62, 63, 64, 65, 66, 67, 68, 69, 70, 71, 72, 73, 74, 75, 76, 77, 78, 79, 80, 81, 82, 83, 84, 85, 86, 87, 88, 89, 90, 91, 92, 93, 94, 95, 96, 97, 98, 99, 100, 101, 102, 103, 104, 105, 106, 107, 108, 109, 110, 111, 112, 113, 114, 115, 116, 117, 118, 119] (by decide +kernel) (by decide +kernel)
set_option maxRecDepth 20000 in
theorem gX7_rests_X7_isRest : GoodIn wsX7_rests (wsV RX7 231 RX7 yX7_isRest wsX7_isRest) := goodIn_app (goodIn_of _ (by decide +kernel)) ggX7_rests_X7_isRest
theorem dX7_rests_0 : decode cX7_rests 0 = .ok (.aload_n 0, 1) := by decide +kernel
theorem dX7_rests_1 : decode cX7_rests 1 = .ok (.iload_n 1, 1) := by decide +kernel
theorem dX7_rests_2 : decode cX7_rests 2 = .ok (.invokevirtual 126, 3) := by decide +kernel
theorem dX7_rests_5 : decode cX7_rests 5 = .ok (.ifCond .eq 11, 3) := by decide +kernel
theorem dX7_rests_8 : decode cX7_rests 8 = .ok (.aload_n 0, 1) := by decide +kernel
theorem dX7_rests_9 : decode cX7_rests 9 = .ok (.iload_n 2, 1) := by decide +kernel
theorem dX7_rests_10 : decode cX7_rests 10 = .ok (.invokevirtual 126, 3) := by decide +kernel
theorem dX7_rests_13 : decode cX7_rests 13 = .ok (.ifCond .ne 5, 3) := by decide +kernel
theorem dX7_rests_16 : decode cX7_rests 16 = .ok (.iconst (-1), 1) := by decide +kernel
theorem dX7_rests_17 : decode cX7_rests 17 = .ok (.ireturn, 1) := by decide +kernel
theorem dX7_rests_18 : decode cX7_rests 18 = .ok (.iload_n 1, 1) := by decide +kernel
theorem dX7_rests_19 : decode cX7_rests 19 = .ok (.iload_n 2, 1) := by decide +kernel
theorem dX7_rests_20 : decode cX7_rests 20 = .ok (.if_icmp .eq 13, 3) := by decide +kernel
theorem dX7_rests_23 : decode cX7_rests 23 = .ok (.iload_n 3, 1) := by decide +kernel
theorem dX7_rests_24 : decode cX7_rests 24 = .ok (.i2l, 1) := by decide +kernel
theorem dX7_rests_25 : decode cX7_rests 25 = .ok (.lconst 0, 1) := by decide +kernel
theorem dX7_rests_26 : decode cX7_rests 26 = .ok (.lconst 1, 1) := by decide +kernel
theorem dX7_rests_27 : decode cX7_rests 27 = .ok (.invokestatic 61, 3) := by decide +kernel
theorem dX7_rests_30 : decode cX7_rests 30 = .ok (.ifCond .ne 6, 3) := by decide +kernel
theorem dX7_rests_33 : decode cX7_rests 33 = .ok (.bipush (-2), 2) := by decide +kernel
theorem dX7_rests_35 : decode cX7_rests 35 = .ok (.ireturn, 1) := by decide +kernel
theorem dX7_rests_36 : decode cX7_rests 36 = .ok (.iconst 0, 1) := by decide +kernel
theorem dX7_rests_37 : decode cX7_rests 37 = .ok (.istore 4, 2) := by decide +kernel
theorem dX7_rests_39 : decode cX7_rests 39 = .ok (.bipush (-9), 2) := by decide +kernel
theorem dX7_rests_41 : decode cX7_rests 41 = .ok (.istore 5, 2) := by decide +kernel
theorem dX7_rests_43 : decode cX7_rests 43 = .ok (.iconst 0, 1) := by decide +kernel
theorem dX7_rests_44 : decode cX7_rests 44 = .ok (.istore 6, 2) := by decide +kernel
theorem dX7_rests_46 : decode cX7_rests 46 = .ok (.iload 6, 2) := by decide +kernel
theorem dX7_rests_48 : decode cX7_rests 48 = .ok (.bipush 9, 2) := by decide +kernel
theorem dX7_rests_50 : decode cX7_rests 50 = .ok (.if_icmp .ge 53, 3) := by decide +kernel
theorem dX7_rests_53 : decode cX7_rests 53 = .ok (.aload_n 0, 1) := by decide +kernel
theorem dX7_rests_54 : decode cX7_rests 54 = .ok (.iload_n 1, 1) := by decide +kernel
theorem dX7_rests_55 : decode cX7_rests 55 = .ok (.iload_n 2, 1) := by decide +kernel
theorem dX7_rests_56 : decode cX7_rests 56 = .ok (.iload 6, 2) := by decide +kernel
theorem dX7_rests_58 : decode cX7_rests 58 = .ok (.iconst 3, 1) := by decide +kernel
theorem dX7_rests_59 : decode cX7_rests 59 = .ok (.idiv, 1) := by decide +kernel
theorem dX7_rests_60 : decode cX7_rests 60 = .ok (.iload 6, 2) := by decide +kernel
theorem dX7_rests_62 : decode cX7_rests 62 = .ok (.iconst 3, 1) := by decide +kernel
theorem dX7_rests_63 : decode cX7_rests 63 = .ok (.irem, 1) := by decide +kernel
theorem dX7_rests_64 : decode cX7_rests 64 = .ok (.invokevirtual 231, 3) := by decide +kernel
theorem dX7_rests_67 : decode cX7_rests 67 = .ok (.ifCond .eq 30, 3) := by decide +kernel
theorem dX7_rests_70 : decode cX7_rests 70 = .ok (.iload 4, 2) := by decide +kernel
theorem dX7_rests_72 : decode cX7_rests 72 = .ok (.ifCond .ne 18, 3) := by decide +kernel
theorem dX7_rests_75 : decode cX7_rests 75 = .ok (.bipush 10, 2) := by decide +kernel
theorem dX7_rests_77 : decode cX7_rests 77 = .ok (.iload 6, 2) := by decide +kernel
theorem dX7_rests_79 : decode cX7_rests 79 = .ok (.iconst 3, 1) := by decide +kernel
theorem dX7_rests_80 : decode cX7_rests 80 = .ok (.idiv, 1) := by decide +kernel
theorem dX7_rests_81 : decode cX7_rests 81 = .ok (.imul, 1) := by decide +kernel
theorem dX7_rests_82 : decode cX7_rests 82 = .ok (.iload 6, 2) := by decide +kernel
theorem dX7_rests_84 : decode cX7_rests 84 = .ok (.iconst 3, 1) := by decide +kernel
theorem dX7_rests_85 : decode cX7_rests 85 = .ok (.irem, 1) := by decide +kernel
theorem dX7_rests_86 : decode cX7_rests 86 = .ok (.iadd, 1) := by decide +kernel
theorem dX7_rests_87 : decode cX7_rests 87 = .ok (.goto 5, 3) := by decide +kernel
theorem dX7_rests_90 : decode cX7_rests 90 = .ok (.iload 5, 2) := by decide +kernel
theorem dX7_rests_92 : decode cX7_rests 92 = .ok (.istore 5, 2) := by decide +kernel
theorem dX7_rests_94 : decode cX7_rests 94 = .ok (.iinc 4 1, 3) := by decide +kernel
theorem dX7_rests_97 : decode cX7_rests 97 = .ok (.iinc 6 1, 3) := by decide +kernel
theorem dX7_rests_100 : decode cX7_rests 100 = .ok (.goto (-54), 3) := by decide +kernel
theorem dX7_rests_103 : decode cX7_rests 103 = .ok (.iload_n 3, 1) := by decide +kernel
theorem dX7_rests_104 : decode cX7_rests 104 = .ok (.ifCond .ne 8, 3) := by decide +kernel
theorem dX7_rests_107 : decode cX7_rests 107 = .ok (.iload 4, 2) := by decide +kernel
theorem dX7_rests_109 : decode cX7_rests 109 = .ok (.goto 5, 3) := by decide +kernel
theorem dX7_rests_112 : decode cX7_rests 112 = .ok (.iload 5, 2) := by decide +kernel
theorem dX7_rests_114 : decode cX7_rests 114 = .ok (.ireturn, 1) := by decide +kernel
theorem dX7_power_0 : decode cX7_power 0 = .ok (.iconst 1, 1) := by decide +kernel
theorem dX7_power_1 : decode cX7_power 1 = .ok (.istore_n 2, 1) := by decide +kernel
theorem dX7_power_2 : decode cX7_power 2 = .ok (.iconst 0, 1) := by decide +kernel
theorem dX7_power_3 : decode cX7_power 3 = .ok (.istore_n 3, 1) := by decide +kernel
theorem dX7_power_4 : decode cX7_power 4 = .ok (.iload_n 3, 1) := by decide +kernel
theorem dX7_power_5 : decode cX7_power 5 = .ok (.iload_n 1, 1) := by decide +kernel
theorem dX7_power_6 : decode cX7_power 6 = .ok (.if_icmp .ge 13, 3) := by decide +kernel
theorem dX7_power_9 : decode cX7_power 9 = .ok (.iload_n 2, 1) := by decide +kernel
theorem dX7_power_10 : decode cX7_power 10 = .ok (.iload_n 0, 1) := by decide +kernel
theorem dX7_power_11 : decode cX7_power 11 = .ok (.imul, 1) := by decide +kernel
theorem dX7_power_12 : decode cX7_power 12 = .ok (.istore_n 2, 1) := by decide +kernel
theorem dX7_power_13 : decode cX7_power 13 = .ok (.iinc 3 1, 3) := by decide +kernel
theorem dX7_power_16 : decode cX7_power 16 = .ok (.goto (-12), 3) := by decide +kernel
theorem dX7_power_19 : decode cX7_power 19 = .ok (.iload_n 2, 1) := by decide +kernel
theorem dX7_power_20 : decode cX7_power 20 = .ok (.ireturn, 1) := by decide +kernel
theorem dX7_iceable_0 : decode cX7_iceable 0 = .ok (.iconst 0, 1) := by decide +kernel
theorem dX7_iceable_1 : decode cX7_iceable 1 = .ok (.istore_n 1, 1) := by decide +kernel
theorem dX7_iceable_2 : decode cX7_iceable 2 = .ok (.iconst 0, 1) := by decide +kernel
theorem dX7_iceable_3 : decode cX7_iceable 3 = .ok (.istore_n 2, 1) := by decide +kernel
theorem dX7_iceable_4 : decode cX7_iceable 4 = .ok (.iload_n 2, 1) := by decide +kernel
theorem dX7_iceable_5 : decode cX7_iceable 5 = .ok (.aload_n 0, 1) := by decide +kernel
theorem dX7_iceable_6 : decode cX7_iceable 6 = .ok (.getfield 93, 3) := by decide +kernel
theorem dX7_iceable_9 : decode cX7_iceable 9 = .ok (.if_icmp .ge 35, 3) := by decide +kernel
theorem dX7_iceable_12 : decode cX7_iceable 12 = .ok (.iload_n 2, 1) := by decide +kernel
theorem dX7_iceable_13 : decode cX7_iceable 13 = .ok (.bipush 8, 2) := by decide +kernel
theorem dX7_iceable_15 : decode cX7_iceable 15 = .ok (.if_icmp .ge 29, 3) := by decide +kernel
theorem dX7_iceable_18 : decode cX7_iceable 18 = .ok (.iload_n 1, 1) := by decide +kernel
theorem dX7_iceable_19 : decode cX7_iceable 19 = .ok (.aload_n 0, 1) := by decide +kernel
theorem dX7_iceable_20 : decode cX7_iceable 20 = .ok (.getfield 13, 3) := by decide +kernel
theorem dX7_iceable_23 : decode cX7_iceable 23 = .ok (.iload_n 2, 1) := by decide +kernel
theorem dX7_iceable_24 : decode cX7_iceable 24 = .ok (.iaload, 1) := by decide +kernel
theorem dX7_iceable_25 : decode cX7_iceable 25 = .ok (.iconst 3, 1) := by decide +kernel
theorem dX7_iceable_26 : decode cX7_iceable 26 = .ok (.if_icmp .ne 7, 3) := by decide +kernel
theorem dX7_iceable_29 : decode cX7_iceable 29 = .ok (.iconst 0, 1) := by decide +kernel
theorem dX7_iceable_30 : decode cX7_iceable 30 = .ok (.goto 6, 3) := by decide +kernel
theorem dX7_iceable_33 : decode cX7_iceable 33 = .ok (.iconst 1, 1) := by decide +kernel
theorem dX7_iceable_34 : decode cX7_iceable 34 = .ok (.iload_n 2, 1) := by decide +kernel
theorem dX7_iceable_35 : decode cX7_iceable 35 = .ok (.ishl, 1) := by decide +kernel
theorem dX7_iceable_36 : decode cX7_iceable 36 = .ok (.ior, 1) := by decide +kernel
theorem dX7_iceable_37 : decode cX7_iceable 37 = .ok (.istore_n 1, 1) := by decide +kernel
theorem dX7_iceable_38 : decode cX7_iceable 38 = .ok (.iinc 2 1, 3) := by decide +kernel
theorem dX7_iceable_41 : decode cX7_iceable 41 = .ok (.goto (-37), 3) := by decide +kernel
theorem dX7_iceable_44 : decode cX7_iceable 44 = .ok (.iload_n 1, 1) := by decide +kernel
theorem dX7_iceable_45 : decode cX7_iceable 45 = .ok (.ireturn, 1) := by decide +kernel
set_option maxRecDepth 20000 in
theorem ggX7_icy_X7_isTraveller : GoodIn wsX7_icy wsX7_isTraveller := goodIn_r _ [7, 8, 9, 10, 6, 11, 84, 85, 86, 87, 88, 89, 90, 91, 92, 93, 94, 95, 96, 97, 98, 99, 100, 101, 102, 103, 104, 105, 106, 107, 108, 109, 110, 111, 112, 113] (by decide +kernel) (by decide +kernel)
set_option maxRecDepth 20000 in
theorem gX7_icy_X7_isTraveller : GoodIn wsX7_icy (wsV RX7 126 RX7 yX7_isTraveller wsX7_isTraveller) := goodIn_app (goodIn_of _ (by decide +kernel)) ggX7_icy_X7_isTraveller
set_option maxRecDepth 20000 in
theorem ggX7_icy_X7_isPlace : GoodIn wsX7_icy wsX7_isPlace := goodIn_r _ [15, 16, 9, 10, 6, 11, 84, 85, 86, 87, 88, 89, 90, 91, 92, 93, 94, 95, 96, 97, 98, 99, 100, 101, 102, 103, 104, 105, 106, 107, 108, 109, 110, 111, 112, 113] (by decide +kernel) (by decide +kernel)
set_option maxRecDepth 20000 in
theorem gX7_icy_X7_isPlace : GoodIn wsX7_icy (wsV RX7 186 RX7 yX7_isPlace wsX7_isPlace) := goodIn_app (goodIn_of _ (by decide +kernel)) ggX7_icy_X7_isPlace
set_option maxRecDepth 20000 in
theorem ggX7_icy_X7_in : GoodIn wsX7_icy wsX7_in := goodIn_r _ [11] (by decide +kernel) (by decide +kernel)
set_option maxRecDepth 20000 in
theorem gX7_icy_X7_in : GoodIn wsX7_icy (va_wsS RX7 61 yX7_in wsX7_in) := goodIn_app (goodIn_of _ (by decide +kernel)) ggX7_icy_X7_in
set_option maxRecDepth 20000 in
theorem ggX7_icy_X7_iceable : GoodIn wsX7_icy wsX7_iceable := goodIn_r _ [20, 16, 21, 84, 85, 86, 87, 88, 89, 90, 91, 92, 93, 94, 95, 96, 97, 98, 99, 100, 101, 102, 103, 104, 105, 106, 107, 108, 109, 110, 111, 112, 113] (by decide +kernel) (by decide +kernel)
set_option maxRecDepth 20000 in
theorem gX7_icy_X7_iceable : GoodIn wsX7_icy (wsV RX7 235 RX7 yX7_iceable wsX7_iceable) := goodIn_app (goodIn_of _ (by decide +kernel)) ggX7_icy_X7_iceable
set_option maxRecDepth 20000 in
theorem ggX7_icy_X7_ones : GoodIn wsX7_icy wsX7_ones := goodIn_r _ [24] (by decide +kernel) (by decide +kernel)
set_option maxRecDepth 20000 in
theorem gX7_icy_X7_ones : GoodIn wsX7_icy (va_wsS RX7 189 yX7_ones wsX7_ones) := goodIn_app (goodIn_of _ (by decide +kernel)) ggX7_icy_X7_ones
set_option maxRecDepth 20000 in
theorem ggX7_icy_X7_power : GoodIn wsX7_icy wsX7_power := goodIn_r _ [27] (by decide +kernel) (by decide +kernel)
set_option maxRecDepth 20000 in
theorem gX7_icy_X7_power : GoodIn wsX7_icy (va_wsS RX7 238 yX7_power wsX7_power) := goodIn_app (goodIn_of _ (by decide +kernel)) ggX7_icy_X7_power
set_option maxRecDepth 20000 in
theorem ggX7_icy_X7_reachNow : GoodIn wsX7_icy wsX7_reachNow := goodIn_r _ [31, 32, 33, 34, 35, 6, 36, 37, 38, 39, 40, 41, 42, 43, 44, 45, 46, 47, 48, 49, 50, 51, 52, 53, 21, 54, 55, 56, 57, 58, 59, 60, 61, 62, 16, 9, 10, 11, 63, 64, 65, 66, 2, 67, 68, 69, 70, 71, 72, 73, 74, 75, 76, 77, 78, 79, 80, 84, 85, 86, 87, 88, 89, 90, 91, 92, 93, 94, 95, 96, 97, 98, 99, 100, 101, 102, 103, 104, 105, 106, 107, 108, 109, 110, 111, 112, 113] (by decide +kernel) (by decide +kernel)
set_option maxRecDepth 20000 in
theorem gX7_icy_X7_reachNow : GoodIn wsX7_icy (wsV RX7 182 RX7 yX7_reachNow wsX7_reachNow) := goodIn_app (goodIn_of _ (by decide +kernel)) ggX7_icy_X7_reachNow
set_option maxRecDepth 20000 in
theorem ggX7_icy_X7_has : GoodIn wsX7_icy wsX7_has := goodIn_r _ [70] (by decide +kernel) (by decide +kernel)
set_option maxRecDepth 20000 in
theorem gX7_icy_X7_has : GoodIn wsX7_icy (va_wsS RX7 108 yX7_has wsX7_has) := goodIn_app (goodIn_of _ (by decide +kernel)) ggX7_icy_X7_has
set_option maxRecDepth 20000 in
theorem ggX7_icy_X7_common : GoodIn wsX7_icy wsX7_common := goodIn_r _ [83] (by decide +kernel) (by decide +kernel)
set_option maxRecDepth 20000 in
theorem gX7_icy_X7_common : GoodIn wsX7_icy (va_wsS RX7 221 yX7_common wsX7_common) := goodIn_app (goodIn_of _ (by decide +kernel)) ggX7_icy_X7_common
theorem dX7_icy_0 : decode cX7_icy 0 = .ok (.aload_n 0, 1) := by decide +kernel
theorem dX7_icy_1 : decode cX7_icy 1 = .ok (.iload_n 1, 1) := by decide +kernel
theorem dX7_icy_2 : decode cX7_icy 2 = .ok (.invokevirtual 126, 3) := by decide +kernel
theorem dX7_icy_5 : decode cX7_icy 5 = .ok (.ifCond .eq 11, 3) := by decide +kernel
theorem dX7_icy_8 : decode cX7_icy 8 = .ok (.aload_n 0, 1) := by decide +kernel
theorem dX7_icy_9 : decode cX7_icy 9 = .ok (.iload_n 2, 1) := by decide +kernel
theorem dX7_icy_10 : decode cX7_icy 10 = .ok (.invokevirtual 186, 3) := by decide +kernel
theorem dX7_icy_13 : decode cX7_icy 13 = .ok (.ifCond .ne 5, 3) := by decide +kernel
theorem dX7_icy_16 : decode cX7_icy 16 = .ok (.iconst (-1), 1) := by decide +kernel
theorem dX7_icy_17 : decode cX7_icy 17 = .ok (.ireturn, 1) := by decide +kernel
theorem dX7_icy_18 : decode cX7_icy 18 = .ok (.iload_n 3, 1) := by decide +kernel
theorem dX7_icy_19 : decode cX7_icy 19 = .ok (.i2l, 1) := by decide +kernel
theorem dX7_icy_20 : decode cX7_icy 20 = .ok (.lconst 0, 1) := by decide +kernel
theorem dX7_icy_21 : decode cX7_icy 21 = .ok (.ldc2_w 207, 3) := by decide +kernel
theorem dX7_icy_24 : decode cX7_icy 24 = .ok (.invokestatic 61, 3) := by decide +kernel
theorem dX7_icy_27 : decode cX7_icy 27 = .ok (.ifCond .ne 6, 3) := by decide +kernel
theorem dX7_icy_30 : decode cX7_icy 30 = .ok (.bipush (-2), 2) := by decide +kernel
theorem dX7_icy_32 : decode cX7_icy 32 = .ok (.ireturn, 1) := by decide +kernel
theorem dX7_icy_33 : decode cX7_icy 33 = .ok (.aload_n 0, 1) := by decide +kernel
theorem dX7_icy_34 : decode cX7_icy 34 = .ok (.invokevirtual 235, 3) := by decide +kernel
theorem dX7_icy_37 : decode cX7_icy 37 = .ok (.istore 5, 2) := by decide +kernel
theorem dX7_icy_39 : decode cX7_icy 39 = .ok (.iconst 0, 1) := by decide +kernel
theorem dX7_icy_40 : decode cX7_icy 40 = .ok (.istore 6, 2) := by decide +kernel
theorem dX7_icy_42 : decode cX7_icy 42 = .ok (.iconst 0, 1) := by decide +kernel
theorem dX7_icy_43 : decode cX7_icy 43 = .ok (.istore 7, 2) := by decide +kernel
theorem dX7_icy_45 : decode cX7_icy 45 = .ok (.iconst 0, 1) := by decide +kernel
theorem dX7_icy_46 : decode cX7_icy 46 = .ok (.istore 8, 2) := by decide +kernel
theorem dX7_icy_48 : decode cX7_icy 48 = .ok (.iload 8, 2) := by decide +kernel
theorem dX7_icy_50 : decode cX7_icy 50 = .ok (.sipush 256, 3) := by decide +kernel
theorem dX7_icy_53 : decode cX7_icy 53 = .ok (.if_icmp .ge 95, 3) := by decide +kernel
theorem dX7_icy_56 : decode cX7_icy 56 = .ok (.iload 8, 2) := by decide +kernel
theorem dX7_icy_58 : decode cX7_icy 58 = .ok (.iload 5, 2) := by decide +kernel
theorem dX7_icy_60 : decode cX7_icy 60 = .ok (.iconst (-1), 1) := by decide +kernel
theorem dX7_icy_61 : decode cX7_icy 61 = .ok (.ixor, 1) := by decide +kernel
theorem dX7_icy_62 : decode cX7_icy 62 = .ok (.iand, 1) := by decide +kernel
theorem dX7_icy_63 : decode cX7_icy 63 = .ok (.ifCond .ne 79, 3) := by decide +kernel
theorem dX7_icy_66 : decode cX7_icy 66 = .ok (.iload_n 3, 1) := by decide +kernel
theorem dX7_icy_67 : decode cX7_icy 67 = .ok (.iload 8, 2) := by decide +kernel
theorem dX7_icy_69 : decode cX7_icy 69 = .ok (.invokestatic 189, 3) := by decide +kernel
theorem dX7_icy_72 : decode cX7_icy 72 = .ok (.invokestatic 238, 3) := by decide +kernel
theorem dX7_icy_75 : decode cX7_icy 75 = .ok (.bipush 10, 2) := by decide +kernel
theorem dX7_icy_77 : decode cX7_icy 77 = .ok (.iload_n 3, 1) := by decide +kernel
theorem dX7_icy_78 : decode cX7_icy 78 = .ok (.isub, 1) := by decide +kernel
theorem dX7_icy_79 : decode cX7_icy 79 = .ok (.iload 5, 2) := by decide +kernel
theorem dX7_icy_81 : decode cX7_icy 81 = .ok (.invokestatic 189, 3) := by decide +kernel
theorem dX7_icy_84 : decode cX7_icy 84 = .ok (.iload 8, 2) := by decide +kernel
theorem dX7_icy_86 : decode cX7_icy 86 = .ok (.invokestatic 189, 3) := by decide +kernel
theorem dX7_icy_89 : decode cX7_icy 89 = .ok (.isub, 1) := by decide +kernel
theorem dX7_icy_90 : decode cX7_icy 90 = .ok (.invokestatic 238, 3) := by decide +kernel
theorem dX7_icy_93 : decode cX7_icy 93 = .ok (.imul, 1) := by decide +kernel
theorem dX7_icy_94 : decode cX7_icy 94 = .ok (.istore 9, 2) := by decide +kernel
theorem dX7_icy_96 : decode cX7_icy 96 = .ok (.aload_n 0, 1) := by decide +kernel
theorem dX7_icy_97 : decode cX7_icy 97 = .ok (.iload 8, 2) := by decide +kernel
theorem dX7_icy_99 : decode cX7_icy 99 = .ok (.putfield 105, 3) := by decide +kernel
theorem dX7_icy_102 : decode cX7_icy 102 = .ok (.iload 7, 2) := by decide +kernel
theorem dX7_icy_104 : decode cX7_icy 104 = .ok (.iload 9, 2) := by decide +kernel
theorem dX7_icy_106 : decode cX7_icy 106 = .ok (.iadd, 1) := by decide +kernel
theorem dX7_icy_107 : decode cX7_icy 107 = .ok (.istore 7, 2) := by decide +kernel
theorem dX7_icy_109 : decode cX7_icy 109 = .ok (.iload 6, 2) := by decide +kernel
theorem dX7_icy_111 : decode cX7_icy 111 = .ok (.iload 9, 2) := by decide +kernel
theorem dX7_icy_113 : decode cX7_icy 113 = .ok (.ifCond .le 20, 3) := by decide +kernel
theorem dX7_icy_116 : decode cX7_icy 116 = .ok (.aload_n 0, 1) := by decide +kernel
theorem dX7_icy_117 : decode cX7_icy 117 = .ok (.iload_n 1, 1) := by decide +kernel
theorem dX7_icy_118 : decode cX7_icy 118 = .ok (.invokevirtual 182, 3) := by decide +kernel
theorem dX7_icy_121 : decode cX7_icy 121 = .ok (.iload_n 2, 1) := by decide +kernel
theorem dX7_icy_122 : decode cX7_icy 122 = .ok (.invokestatic 108, 3) := by decide +kernel
theorem dX7_icy_125 : decode cX7_icy 125 = .ok (.ifCond .eq 8, 3) := by decide +kernel
theorem dX7_icy_128 : decode cX7_icy 128 = .ok (.iload 9, 2) := by decide +kernel
theorem dX7_icy_130 : decode cX7_icy 130 = .ok (.goto 4, 3) := by decide +kernel
theorem dX7_icy_133 : decode cX7_icy 133 = .ok (.iconst 0, 1) := by decide +kernel
theorem dX7_icy_134 : decode cX7_icy 134 = .ok (.iadd, 1) := by decide +kernel
theorem dX7_icy_135 : decode cX7_icy 135 = .ok (.istore 6, 2) := by decide +kernel
theorem dX7_icy_137 : decode cX7_icy 137 = .ok (.aload_n 0, 1) := by decide +kernel
theorem dX7_icy_138 : decode cX7_icy 138 = .ok (.iconst 0, 1) := by decide +kernel
theorem dX7_icy_139 : decode cX7_icy 139 = .ok (.putfield 105, 3) := by decide +kernel
theorem dX7_icy_142 : decode cX7_icy 142 = .ok (.iinc 8 1, 3) := by decide +kernel
theorem dX7_icy_145 : decode cX7_icy 145 = .ok (.goto (-97), 3) := by decide +kernel
theorem dX7_icy_148 : decode cX7_icy 148 = .ok (.iload 6, 2) := by decide +kernel
theorem dX7_icy_150 : decode cX7_icy 150 = .ok (.iload 7, 2) := by decide +kernel
theorem dX7_icy_152 : decode cX7_icy 152 = .ok (.invokestatic 221, 3) := by decide +kernel
theorem dX7_icy_155 : decode cX7_icy 155 = .ok (.istore 8, 2) := by decide +kernel
theorem dX7_icy_157 : decode cX7_icy 157 = .ok (.iload 4, 2) := by decide +kernel
theorem dX7_icy_159 : decode cX7_icy 159 = .ok (.ifCond .eq 11, 3) := by decide +kernel
theorem dX7_icy_162 : decode cX7_icy 162 = .ok (.iload 6, 2) := by decide +kernel
theorem dX7_icy_164 : decode cX7_icy 164 = .ok (.iload 8, 2) := by decide +kernel
theorem dX7_icy_166 : decode cX7_icy 166 = .ok (.idiv, 1) := by decide +kernel
theorem dX7_icy_167 : decode cX7_icy 167 = .ok (.goto 8, 3) := by decide +kernel
theorem dX7_icy_170 : decode cX7_icy 170 = .ok (.iload 7, 2) := by decide +kernel
theorem dX7_icy_172 : decode cX7_icy 172 = .ok (.iload 8, 2) := by decide +kernel
theorem dX7_icy_174 : decode cX7_icy 174 = .ok (.idiv, 1) := by decide +kernel
theorem dX7_icy_175 : decode cX7_icy 175 = .ok (.ireturn, 1) := by decide +kernel
theorem dX7_seed_0 : decode cX7_seed 0 = .ok (.aload_n 0, 1) := by decide +kernel
theorem dX7_seed_1 : decode cX7_seed 1 = .ok (.getfield 241, 3) := by decide +kernel
theorem dX7_seed_4 : decode cX7_seed 4 = .ok (.lstore_n 3, 1) := by decide +kernel
theorem dX7_seed_5 : decode cX7_seed 5 = .ok (.aload_n 0, 1) := by decide +kernel
theorem dX7_seed_6 : decode cX7_seed 6 = .ok (.lload_n 1, 1) := by decide +kernel
theorem dX7_seed_7 : decode cX7_seed 7 = .ok (.putfield 241, 3) := by decide +kernel
theorem dX7_seed_10 : decode cX7_seed 10 = .ok (.lload_n 3, 1) := by decide +kernel
theorem dX7_seed_11 : decode cX7_seed 11 = .ok (.lreturn, 1) := by decide +kernel
set_option maxRecDepth 20000 in
theorem ggX7_summers_X7_in : GoodIn wsX7_summers wsX7_in := goodIn_r _ [11] (by decide +kernel) (by decide +kernel)
set_option maxRecDepth 20000 in
theorem gX7_summers_X7_in : GoodIn wsX7_summers (va_wsS RX7 61 yX7_in wsX7_in) := goodIn_app (goodIn_of _ (by decide +kernel)) ggX7_summers_X7_in
set_option maxRecDepth 20000 in
theorem ggX7_summers_X7_layTrial : GoodIn wsX7_summers wsX7_layTrial := goodIn_r _ [15, 7, 71, 72, 73, 74, 75, 76, 77, 78, 79, 80, 81, 82, 83, 84, 85, 86, 87, 88, 89, 90, 91, 92, 93, 94, 95, 96, 97, 98, 99, 100] (by decide +kernel) (by decide +kernel)
set_option maxRecDepth 20000 in
theorem gX7_summers_X7_layTrial : GoodIn wsX7_summers (wsV RX7 200 RX7 yX7_layTrial wsX7_layTrial) := goodIn_app (goodIn_of _ (by decide +kernel)) ggX7_summers_X7_layTrial
set_option maxRecDepth 20000 in
theorem ggX7_summers_X7_tryThing : GoodIn wsX7_summers wsX7_tryThing := goodIn_r _ [19, 7, 20, 21, 22, 10, 23, 24, 25, 26, 27, 6, 8, 9, 11, 28, 29, 30, 31, 32, 33, 34, 35, 36, 37, 38, 39, 40, 41, 42, 43, 44, 45, 46, 47, 48, 49, 50, 51, 52, 53, 54, 55, 56, 57, 58, 59, 60, 61, 62, 63, 64, 65, 66, 67, 68, 69, 70, 71, 72, 73, 74, 75, 76, 77, 78, 79, 80, 81, 82, 83, 84, 85, 86, 87, 88, 89, 90, 91, 92, 93, 94, 95, 96, 97, 98, 99, 100] (by decide +kernel) (by decide +kernel)
set_option maxRecDepth 20000 in
theorem gX7_summers_X7_tryThing : GoodIn wsX7_summers (wsV RX7 203 RX7 yX7_tryThing wsX7_tryThing) := goodIn_app (goodIn_of _ (by decide +kernel)) ggX7_summers_X7_tryThing
theorem dX7_summers_0 : decode cX7_summers 0 = .ok (.iload_n 1, 1) := by decide +kernel
theorem dX7_summers_1 : decode cX7_summers 1 = .ok (.i2l, 1) := by decide +kernel
theorem dX7_summers_2 : decode cX7_summers 2 = .ok (.lconst 1, 1) := by decide +kernel
theorem dX7_summers_3 : decode cX7_summers 3 = .ok (.ldc2_w 245, 3) := by decide +kernel
theorem dX7_summers_6 : decode cX7_summers 6 = .ok (.invokestatic 61, 3) := by decide +kernel
theorem dX7_summers_9 : decode cX7_summers 9 = .ok (.ifCond .ne 6, 3) := by decide +kernel
theorem dX7_summers_12 : decode cX7_summers 12 = .ok (.bipush (-2), 2) := by decide +kernel
theorem dX7_summers_14 : decode cX7_summers 14 = .ok (.ireturn, 1) := by decide +kernel
theorem dX7_summers_15 : decode cX7_summers 15 = .ok (.aload_n 0, 1) := by decide +kernel
theorem dX7_summers_16 : decode cX7_summers 16 = .ok (.invokevirtual 200, 3) := by decide +kernel
theorem dX7_summers_19 : decode cX7_summers 19 = .ok (.iconst 0, 1) := by decide +kernel
theorem dX7_summers_20 : decode cX7_summers 20 = .ok (.istore_n 2, 1) := by decide +kernel
theorem dX7_summers_21 : decode cX7_summers 21 = .ok (.iconst 0, 1) := by decide +kernel
theorem dX7_summers_22 : decode cX7_summers 22 = .ok (.istore_n 3, 1) := by decide +kernel
theorem dX7_summers_23 : decode cX7_summers 23 = .ok (.iload_n 3, 1) := by decide +kernel
theorem dX7_summers_24 : decode cX7_summers 24 = .ok (.iload_n 1, 1) := by decide +kernel
theorem dX7_summers_25 : decode cX7_summers 25 = .ok (.if_icmp .ge 169, 3) := by decide +kernel
theorem dX7_summers_28 : decode cX7_summers 28 = .ok (.aload_n 0, 1) := by decide +kernel
theorem dX7_summers_29 : decode cX7_summers 29 = .ok (.aload_n 0, 1) := by decide +kernel
theorem dX7_summers_30 : decode cX7_summers 30 = .ok (.getfield 241, 3) := by decide +kernel
theorem dX7_summers_33 : decode cX7_summers 33 = .ok (.ldc2_w 247, 3) := by decide +kernel
theorem dX7_summers_36 : decode cX7_summers 36 = .ok (.lmul, 1) := by decide +kernel
theorem dX7_summers_37 : decode cX7_summers 37 = .ok (.ldc2_w 249, 3) := by decide +kernel
theorem dX7_summers_40 : decode cX7_summers 40 = .ok (.ladd, 1) := by decide +kernel
theorem dX7_summers_41 : decode cX7_summers 41 = .ok (.putfield 241, 3) := by decide +kernel
theorem dX7_summers_44 : decode cX7_summers 44 = .ok (.aload_n 0, 1) := by decide +kernel
theorem dX7_summers_45 : decode cX7_summers 45 = .ok (.getfield 241, 3) := by decide +kernel
theorem dX7_summers_48 : decode cX7_summers 48 = .ok (.bipush 33, 2) := by decide +kernel
theorem dX7_summers_50 : decode cX7_summers 50 = .ok (.lushr, 1) := by decide +kernel
theorem dX7_summers_51 : decode cX7_summers 51 = .ok (.ldc2_w 251, 3) := by decide +kernel
theorem dX7_summers_54 : decode cX7_summers 54 = .ok (.lrem, 1) := by decide +kernel
theorem dX7_summers_55 : decode cX7_summers 55 = .ok (.l2i, 1) := by decide +kernel
theorem dX7_summers_56 : decode cX7_summers 56 = .ok (.istore 4, 2) := by decide +kernel
theorem dX7_summers_58 : decode cX7_summers 58 = .ok (.iload 4, 2) := by decide +kernel
theorem dX7_summers_60 : decode cX7_summers 60 = .ok (.bipush 10, 2) := by decide +kernel
theorem dX7_summers_62 : decode cX7_summers 62 = .ok (.if_icmp .ge 7, 3) := by decide +kernel
theorem dX7_summers_65 : decode cX7_summers 65 = .ok (.iconst 1, 1) := by decide +kernel
theorem dX7_summers_66 : decode cX7_summers 66 = .ok (.goto 26, 3) := by decide +kernel
theorem dX7_summers_69 : decode cX7_summers 69 = .ok (.iload 4, 2) := by decide +kernel
theorem dX7_summers_71 : decode cX7_summers 71 = .ok (.bipush 15, 2) := by decide +kernel
theorem dX7_summers_73 : decode cX7_summers 73 = .ok (.if_icmp .ge 7, 3) := by decide +kernel
theorem dX7_summers_76 : decode cX7_summers 76 = .ok (.iconst 2, 1) := by decide +kernel
theorem dX7_summers_77 : decode cX7_summers 77 = .ok (.goto 15, 3) := by decide +kernel
theorem dX7_summers_80 : decode cX7_summers 80 = .ok (.iload 4, 2) := by decide +kernel
theorem dX7_summers_82 : decode cX7_summers 82 = .ok (.bipush 25, 2) := by decide +kernel
theorem dX7_summers_84 : decode cX7_summers 84 = .ok (.if_icmp .ge 7, 3) := by decide +kernel
theorem dX7_summers_87 : decode cX7_summers 87 = .ok (.iconst 3, 1) := by decide +kernel
theorem dX7_summers_88 : decode cX7_summers 88 = .ok (.goto 4, 3) := by decide +kernel
theorem dX7_summers_91 : decode cX7_summers 91 = .ok (.iconst 4, 1) := by decide +kernel
theorem dX7_summers_92 : decode cX7_summers 92 = .ok (.istore 5, 2) := by decide +kernel
theorem dX7_summers_94 : decode cX7_summers 94 = .ok (.aload_n 0, 1) := by decide +kernel
theorem dX7_summers_95 : decode cX7_summers 95 = .ok (.iload 5, 2) := by decide +kernel
theorem dX7_summers_97 : decode cX7_summers 97 = .ok (.iload 5, 2) := by decide +kernel
theorem dX7_summers_99 : decode cX7_summers 99 = .ok (.iconst 1, 1) := by decide +kernel
theorem dX7_summers_100 : decode cX7_summers 100 = .ok (.if_icmp .ne 10, 3) := by decide +kernel
theorem dX7_summers_103 : decode cX7_summers 103 = .ok (.iload 4, 2) := by decide +kernel
theorem dX7_summers_105 : decode cX7_summers 105 = .ok (.iconst 2, 1) := by decide +kernel
theorem dX7_summers_106 : decode cX7_summers 106 = .ok (.idiv, 1) := by decide +kernel
theorem dX7_summers_107 : decode cX7_summers 107 = .ok (.goto 4, 3) := by decide +kernel
theorem dX7_summers_110 : decode cX7_summers 110 = .ok (.iconst 0, 1) := by decide +kernel
theorem dX7_summers_111 : decode cX7_summers 111 = .ok (.iload 5, 2) := by decide +kernel
theorem dX7_summers_113 : decode cX7_summers 113 = .ok (.iconst 1, 1) := by decide +kernel
theorem dX7_summers_114 : decode cX7_summers 114 = .ok (.if_icmp .ne 10, 3) := by decide +kernel
theorem dX7_summers_117 : decode cX7_summers 117 = .ok (.iload 4, 2) := by decide +kernel
theorem dX7_summers_119 : decode cX7_summers 119 = .ok (.iconst 2, 1) := by decide +kernel
theorem dX7_summers_120 : decode cX7_summers 120 = .ok (.irem, 1) := by decide +kernel
theorem dX7_summers_121 : decode cX7_summers 121 = .ok (.goto 32, 3) := by decide +kernel
theorem dX7_summers_124 : decode cX7_summers 124 = .ok (.iload 5, 2) := by decide +kernel
theorem dX7_summers_126 : decode cX7_summers 126 = .ok (.iconst 2, 1) := by decide +kernel
theorem dX7_summers_127 : decode cX7_summers 127 = .ok (.if_icmp .ne 11, 3) := by decide +kernel
theorem dX7_summers_130 : decode cX7_summers 130 = .ok (.iload 4, 2) := by decide +kernel
theorem dX7_summers_132 : decode cX7_summers 132 = .ok (.bipush 10, 2) := by decide +kernel
theorem dX7_summers_134 : decode cX7_summers 134 = .ok (.isub, 1) := by decide +kernel
theorem dX7_summers_135 : decode cX7_summers 135 = .ok (.goto 18, 3) := by decide +kernel
theorem dX7_summers_138 : decode cX7_summers 138 = .ok (.iload 5, 2) := by decide +kernel
theorem dX7_summers_140 : decode cX7_summers 140 = .ok (.iconst 3, 1) := by decide +kernel
theorem dX7_summers_141 : decode cX7_summers 141 = .ok (.if_icmp .ne 11, 3) := by decide +kernel
theorem dX7_summers_144 : decode cX7_summers 144 = .ok (.iload 4, 2) := by decide +kernel
theorem dX7_summers_146 : decode cX7_summers 146 = .ok (.bipush 15, 2) := by decide +kernel
theorem dX7_summers_148 : decode cX7_summers 148 = .ok (.isub, 1) := by decide +kernel
theorem dX7_summers_149 : decode cX7_summers 149 = .ok (.goto 4, 3) := by decide +kernel
theorem dX7_summers_152 : decode cX7_summers 152 = .ok (.iconst 0, 1) := by decide +kernel
theorem dX7_summers_153 : decode cX7_summers 153 = .ok (.invokevirtual 203, 3) := by decide +kernel
theorem dX7_summers_156 : decode cX7_summers 156 = .ok (.pop, 1) := by decide +kernel
theorem dX7_summers_157 : decode cX7_summers 157 = .ok (.iconst 0, 1) := by decide +kernel
theorem dX7_summers_158 : decode cX7_summers 158 = .ok (.istore 6, 2) := by decide +kernel
theorem dX7_summers_160 : decode cX7_summers 160 = .ok (.iload 6, 2) := by decide +kernel
theorem dX7_summers_162 : decode cX7_summers 162 = .ok (.aload_n 0, 1) := by decide +kernel
theorem dX7_summers_163 : decode cX7_summers 163 = .ok (.getfield 96, 3) := by decide +kernel
theorem dX7_summers_166 : decode cX7_summers 166 = .ok (.if_icmp .ge 22, 3) := by decide +kernel
theorem dX7_summers_169 : decode cX7_summers 169 = .ok (.iload_n 2, 1) := by decide +kernel
theorem dX7_summers_170 : decode cX7_summers 170 = .ok (.aload_n 0, 1) := by decide +kernel
theorem dX7_summers_171 : decode cX7_summers 171 = .ok (.getfield 22, 3) := by decide +kernel
theorem dX7_summers_174 : decode cX7_summers 174 = .ok (.bipush 14, 2) := by decide +kernel
theorem dX7_summers_176 : decode cX7_summers 176 = .ok (.iload 6, 2) := by decide +kernel
theorem dX7_summers_178 : decode cX7_summers 178 = .ok (.iadd, 1) := by decide +kernel
theorem dX7_summers_179 : decode cX7_summers 179 = .ok (.iaload, 1) := by decide +kernel
theorem dX7_summers_180 : decode cX7_summers 180 = .ok (.iadd, 1) := by decide +kernel
theorem dX7_summers_181 : decode cX7_summers 181 = .ok (.istore_n 2, 1) := by decide +kernel
theorem dX7_summers_182 : decode cX7_summers 182 = .ok (.iinc 6 1, 3) := by decide +kernel
theorem dX7_summers_185 : decode cX7_summers 185 = .ok (.goto (-25), 3) := by decide +kernel
theorem dX7_summers_188 : decode cX7_summers 188 = .ok (.iinc 3 1, 3) := by decide +kernel
theorem dX7_summers_191 : decode cX7_summers 191 = .ok (.goto (-168), 3) := by decide +kernel
theorem dX7_summers_194 : decode cX7_summers 194 = .ok (.iload_n 2, 1) := by decide +kernel
theorem dX7_summers_195 : decode cX7_summers 195 = .ok (.ireturn, 1) := by decide +kernel
set_option maxRecDepth 20000 in
theorem ggX7_keep_X7_in : GoodIn wsX7_keep wsX7_in := goodIn_r _ [7] (by decide +kernel) (by decide +kernel)
set_option maxRecDepth 20000 in
theorem gX7_keep_X7_in : GoodIn wsX7_keep (va_wsS RX7 61 yX7_in wsX7_in) := goodIn_app (goodIn_of _ (by decide +kernel)) ggX7_keep_X7_in
theorem dX7_keep_0 : decode cX7_keep 0 = .ok (.iload_n 1, 1) := by decide +kernel
theorem dX7_keep_1 : decode cX7_keep 1 = .ok (.i2l, 1) := by decide +kernel
theorem dX7_keep_2 : decode cX7_keep 2 = .ok (.lconst 0, 1) := by decide +kernel
theorem dX7_keep_3 : decode cX7_keep 3 = .ok (.lconst 1, 1) := by decide +kernel
theorem dX7_keep_4 : decode cX7_keep 4 = .ok (.invokestatic 61, 3) := by decide +kernel
theorem dX7_keep_7 : decode cX7_keep 7 = .ok (.ifCond .ne 5, 3) := by decide +kernel
theorem dX7_keep_10 : decode cX7_keep 10 = .ok (.iconst (-1), 1) := by decide +kernel
theorem dX7_keep_11 : decode cX7_keep 11 = .ok (.ireturn, 1) := by decide +kernel
theorem dX7_keep_12 : decode cX7_keep 12 = .ok (.aload_n 0, 1) := by decide +kernel
theorem dX7_keep_13 : decode cX7_keep 13 = .ok (.getfield 52, 3) := by decide +kernel
theorem dX7_keep_16 : decode cX7_keep 16 = .ok (.iload_n 1, 1) := by decide +kernel
theorem dX7_keep_17 : decode cX7_keep 17 = .ok (.iconst 1, 1) := by decide +kernel
theorem dX7_keep_18 : decode cX7_keep 18 = .ok (.bastore, 1) := by decide +kernel
theorem dX7_keep_19 : decode cX7_keep 19 = .ok (.iconst 0, 1) := by decide +kernel
theorem dX7_keep_20 : decode cX7_keep 20 = .ok (.istore_n 2, 1) := by decide +kernel
theorem dX7_keep_21 : decode cX7_keep 21 = .ok (.iload_n 2, 1) := by decide +kernel
theorem dX7_keep_22 : decode cX7_keep 22 = .ok (.bipush 14, 2) := by decide +kernel
theorem dX7_keep_24 : decode cX7_keep 24 = .ok (.if_icmp .ge 26, 3) := by decide +kernel
theorem dX7_keep_27 : decode cX7_keep 27 = .ok (.aload_n 0, 1) := by decide +kernel
theorem dX7_keep_28 : decode cX7_keep 28 = .ok (.getfield 56, 3) := by decide +kernel
theorem dX7_keep_31 : decode cX7_keep 31 = .ok (.bipush 14, 2) := by decide +kernel
theorem dX7_keep_33 : decode cX7_keep 33 = .ok (.iload_n 1, 1) := by decide +kernel
theorem dX7_keep_34 : decode cX7_keep 34 = .ok (.imul, 1) := by decide +kernel
theorem dX7_keep_35 : decode cX7_keep 35 = .ok (.iload_n 2, 1) := by decide +kernel
theorem dX7_keep_36 : decode cX7_keep 36 = .ok (.iadd, 1) := by decide +kernel
theorem dX7_keep_37 : decode cX7_keep 37 = .ok (.aload_n 0, 1) := by decide +kernel
theorem dX7_keep_38 : decode cX7_keep 38 = .ok (.getfield 22, 3) := by decide +kernel
theorem dX7_keep_41 : decode cX7_keep 41 = .ok (.iload_n 2, 1) := by decide +kernel
theorem dX7_keep_42 : decode cX7_keep 42 = .ok (.iaload, 1) := by decide +kernel
theorem dX7_keep_43 : decode cX7_keep 43 = .ok (.iastore, 1) := by decide +kernel
theorem dX7_keep_44 : decode cX7_keep 44 = .ok (.iinc 2 1, 3) := by decide +kernel
theorem dX7_keep_47 : decode cX7_keep 47 = .ok (.goto (-26), 3) := by decide +kernel
theorem dX7_keep_50 : decode cX7_keep 50 = .ok (.aload_n 0, 1) := by decide +kernel
theorem dX7_keep_51 : decode cX7_keep 51 = .ok (.getfield 22, 3) := by decide +kernel
theorem dX7_keep_54 : decode cX7_keep 54 = .ok (.bipush 13, 2) := by decide +kernel
theorem dX7_keep_56 : decode cX7_keep 56 = .ok (.iaload, 1) := by decide +kernel
theorem dX7_keep_57 : decode cX7_keep 57 = .ok (.ireturn, 1) := by decide +kernel
set_option maxRecDepth 20000 in
theorem ggX7_again_X7_in : GoodIn wsX7_again wsX7_in := goodIn_r _ [8] (by decide +kernel) (by decide +kernel)
set_option maxRecDepth 20000 in
theorem gX7_again_X7_in : GoodIn wsX7_again (va_wsS RX7 61 yX7_in wsX7_in) := goodIn_app (goodIn_of _ (by decide +kernel)) ggX7_again_X7_in
theorem dX7_again_0 : decode cX7_again 0 = .ok (.iload_n 1, 1) := by decide +kernel
theorem dX7_again_1 : decode cX7_again 1 = .ok (.i2l, 1) := by decide +kernel
theorem dX7_again_2 : decode cX7_again 2 = .ok (.lconst 0, 1) := by decide +kernel
theorem dX7_again_3 : decode cX7_again 3 = .ok (.lconst 1, 1) := by decide +kernel
theorem dX7_again_4 : decode cX7_again 4 = .ok (.invokestatic 61, 3) := by decide +kernel
theorem dX7_again_7 : decode cX7_again 7 = .ok (.ifCond .ne 5, 3) := by decide +kernel
theorem dX7_again_10 : decode cX7_again 10 = .ok (.iconst (-1), 1) := by decide +kernel
theorem dX7_again_11 : decode cX7_again 11 = .ok (.ireturn, 1) := by decide +kernel
theorem dX7_again_12 : decode cX7_again 12 = .ok (.aload_n 0, 1) := by decide +kernel
theorem dX7_again_13 : decode cX7_again 13 = .ok (.getfield 52, 3) := by decide +kernel
theorem dX7_again_16 : decode cX7_again 16 = .ok (.iload_n 1, 1) := by decide +kernel
theorem dX7_again_17 : decode cX7_again 17 = .ok (.baload, 1) := by decide +kernel
theorem dX7_again_18 : decode cX7_again 18 = .ok (.ifCond .ne 6, 3) := by decide +kernel
theorem dX7_again_21 : decode cX7_again 21 = .ok (.bipush (-3), 2) := by decide +kernel
theorem dX7_again_23 : decode cX7_again 23 = .ok (.ireturn, 1) := by decide +kernel
theorem dX7_again_24 : decode cX7_again 24 = .ok (.iconst 0, 1) := by decide +kernel
theorem dX7_again_25 : decode cX7_again 25 = .ok (.istore_n 2, 1) := by decide +kernel
theorem dX7_again_26 : decode cX7_again 26 = .ok (.iload_n 2, 1) := by decide +kernel
theorem dX7_again_27 : decode cX7_again 27 = .ok (.bipush 14, 2) := by decide +kernel
theorem dX7_again_29 : decode cX7_again 29 = .ok (.if_icmp .ge 26, 3) := by decide +kernel
theorem dX7_again_32 : decode cX7_again 32 = .ok (.aload_n 0, 1) := by decide +kernel
theorem dX7_again_33 : decode cX7_again 33 = .ok (.getfield 22, 3) := by decide +kernel
theorem dX7_again_36 : decode cX7_again 36 = .ok (.iload_n 2, 1) := by decide +kernel
theorem dX7_again_37 : decode cX7_again 37 = .ok (.aload_n 0, 1) := by decide +kernel
theorem dX7_again_38 : decode cX7_again 38 = .ok (.getfield 56, 3) := by decide +kernel
theorem dX7_again_41 : decode cX7_again 41 = .ok (.bipush 14, 2) := by decide +kernel
theorem dX7_again_43 : decode cX7_again 43 = .ok (.iload_n 1, 1) := by decide +kernel
theorem dX7_again_44 : decode cX7_again 44 = .ok (.imul, 1) := by decide +kernel
theorem dX7_again_45 : decode cX7_again 45 = .ok (.iload_n 2, 1) := by decide +kernel
theorem dX7_again_46 : decode cX7_again 46 = .ok (.iadd, 1) := by decide +kernel
theorem dX7_again_47 : decode cX7_again 47 = .ok (.iaload, 1) := by decide +kernel
theorem dX7_again_48 : decode cX7_again 48 = .ok (.iastore, 1) := by decide +kernel
theorem dX7_again_49 : decode cX7_again 49 = .ok (.iinc 2 1, 3) := by decide +kernel
theorem dX7_again_52 : decode cX7_again 52 = .ok (.goto (-26), 3) := by decide +kernel
theorem dX7_again_55 : decode cX7_again 55 = .ok (.aload_n 0, 1) := by decide +kernel
theorem dX7_again_56 : decode cX7_again 56 = .ok (.iconst 0, 1) := by decide +kernel
theorem dX7_again_57 : decode cX7_again 57 = .ok (.putfield 102, 3) := by decide +kernel
theorem dX7_again_60 : decode cX7_again 60 = .ok (.aload_n 0, 1) := by decide +kernel
theorem dX7_again_61 : decode cX7_again 61 = .ok (.getfield 22, 3) := by decide +kernel
theorem dX7_again_64 : decode cX7_again 64 = .ok (.bipush 13, 2) := by decide +kernel
theorem dX7_again_66 : decode cX7_again 66 = .ok (.iaload, 1) := by decide +kernel
theorem dX7_again_67 : decode cX7_again 67 = .ok (.ireturn, 1) := by decide +kernel
theorem dX7_placesOf_0 : decode cX7_placesOf 0 = .ok (.iconst 0, 1) := by decide +kernel
theorem dX7_placesOf_1 : decode cX7_placesOf 1 = .ok (.istore_n 1, 1) := by decide +kernel
theorem dX7_placesOf_2 : decode cX7_placesOf 2 = .ok (.iconst 0, 1) := by decide +kernel
theorem dX7_placesOf_3 : decode cX7_placesOf 3 = .ok (.istore_n 2, 1) := by decide +kernel
theorem dX7_placesOf_4 : decode cX7_placesOf 4 = .ok (.iload_n 2, 1) := by decide +kernel
theorem dX7_placesOf_5 : decode cX7_placesOf 5 = .ok (.aload_n 0, 1) := by decide +kernel
theorem dX7_placesOf_6 : decode cX7_placesOf 6 = .ok (.getfield 96, 3) := by decide +kernel
theorem dX7_placesOf_9 : decode cX7_placesOf 9 = .ok (.if_icmp .ge 20, 3) := by decide +kernel
theorem dX7_placesOf_12 : decode cX7_placesOf 12 = .ok (.iload_n 1, 1) := by decide +kernel
theorem dX7_placesOf_13 : decode cX7_placesOf 13 = .ok (.iconst 1, 1) := by decide +kernel
theorem dX7_placesOf_14 : decode cX7_placesOf 14 = .ok (.aload_n 0, 1) := by decide +kernel
theorem dX7_placesOf_15 : decode cX7_placesOf 15 = .ok (.getfield 22, 3) := by decide +kernel
theorem dX7_placesOf_18 : decode cX7_placesOf 18 = .ok (.iload_n 2, 1) := by decide +kernel
theorem dX7_placesOf_19 : decode cX7_placesOf 19 = .ok (.iaload, 1) := by decide +kernel
theorem dX7_placesOf_20 : decode cX7_placesOf 20 = .ok (.ishl, 1) := by decide +kernel
theorem dX7_placesOf_21 : decode cX7_placesOf 21 = .ok (.ior, 1) := by decide +kernel
theorem dX7_placesOf_22 : decode cX7_placesOf 22 = .ok (.istore_n 1, 1) := by decide +kernel
theorem dX7_placesOf_23 : decode cX7_placesOf 23 = .ok (.iinc 2 1, 3) := by decide +kernel
theorem dX7_placesOf_26 : decode cX7_placesOf 26 = .ok (.goto (-22), 3) := by decide +kernel
theorem dX7_placesOf_29 : decode cX7_placesOf 29 = .ok (.iload_n 1, 1) := by decide +kernel
theorem dX7_placesOf_30 : decode cX7_placesOf 30 = .ok (.ireturn, 1) := by decide +kernel
theorem dX7_windOfAll_0 : decode cX7_windOfAll 0 = .ok (.iconst 0, 1) := by decide +kernel
theorem dX7_windOfAll_1 : decode cX7_windOfAll 1 = .ok (.istore_n 1, 1) := by decide +kernel
theorem dX7_windOfAll_2 : decode cX7_windOfAll 2 = .ok (.iconst 0, 1) := by decide +kernel
theorem dX7_windOfAll_3 : decode cX7_windOfAll 3 = .ok (.istore_n 2, 1) := by decide +kernel
theorem dX7_windOfAll_4 : decode cX7_windOfAll 4 = .ok (.iload_n 2, 1) := by decide +kernel
theorem dX7_windOfAll_5 : decode cX7_windOfAll 5 = .ok (.aload_n 0, 1) := by decide +kernel
theorem dX7_windOfAll_6 : decode cX7_windOfAll 6 = .ok (.getfield 96, 3) := by decide +kernel
theorem dX7_windOfAll_9 : decode cX7_windOfAll 9 = .ok (.if_icmp .ge 20, 3) := by decide +kernel
theorem dX7_windOfAll_12 : decode cX7_windOfAll 12 = .ok (.iload_n 1, 1) := by decide +kernel
theorem dX7_windOfAll_13 : decode cX7_windOfAll 13 = .ok (.aload_n 0, 1) := by decide +kernel
theorem dX7_windOfAll_14 : decode cX7_windOfAll 14 = .ok (.getfield 22, 3) := by decide +kernel
theorem dX7_windOfAll_17 : decode cX7_windOfAll 17 = .ok (.iconst 5, 1) := by decide +kernel
theorem dX7_windOfAll_18 : decode cX7_windOfAll 18 = .ok (.iload_n 2, 1) := by decide +kernel
theorem dX7_windOfAll_19 : decode cX7_windOfAll 19 = .ok (.iadd, 1) := by decide +kernel
theorem dX7_windOfAll_20 : decode cX7_windOfAll 20 = .ok (.iaload, 1) := by decide +kernel
theorem dX7_windOfAll_21 : decode cX7_windOfAll 21 = .ok (.iadd, 1) := by decide +kernel
theorem dX7_windOfAll_22 : decode cX7_windOfAll 22 = .ok (.istore_n 1, 1) := by decide +kernel
theorem dX7_windOfAll_23 : decode cX7_windOfAll 23 = .ok (.iinc 2 1, 3) := by decide +kernel
theorem dX7_windOfAll_26 : decode cX7_windOfAll 26 = .ok (.goto (-22), 3) := by decide +kernel
theorem dX7_windOfAll_29 : decode cX7_windOfAll 29 = .ok (.iload_n 1, 1) := by decide +kernel
theorem dX7_windOfAll_30 : decode cX7_windOfAll 30 = .ok (.ireturn, 1) := by decide +kernel
set_option maxRecDepth 20000 in
theorem ggX7_count_X7_placesOf : GoodIn wsX7_count wsX7_placesOf := goodIn_r _ [11, 3, 4, 16, 17, 18, 19, 20, 21, 22, 23, 24, 25, 26, 27, 28, 29, 30, 31, 32, 33, 34, 35, 36, 37, 38, 39, 40, 41, 42, 43, 44, 45] (by decide +kernel) (by decide +kernel)
set_option maxRecDepth 20000 in
theorem gX7_count_X7_placesOf : GoodIn wsX7_count (wsV RX7 253 RX7 yX7_placesOf wsX7_placesOf) := goodIn_app (goodIn_of _ (by decide +kernel)) ggX7_count_X7_placesOf
set_option maxRecDepth 20000 in
theorem ggX7_count_X7_windOfAll : GoodIn wsX7_count wsX7_windOfAll := goodIn_r _ [15, 3, 4, 16, 17, 18, 19, 20, 21, 22, 23, 24, 25, 26, 27, 28, 29, 30, 31, 32, 33, 34, 35, 36, 37, 38, 39, 40, 41, 42, 43, 44, 45] (by decide +kernel) (by decide +kernel)
set_option maxRecDepth 20000 in
theorem gX7_count_X7_windOfAll : GoodIn wsX7_count (wsV RX7 256 RX7 yX7_windOfAll wsX7_windOfAll) := goodIn_app (goodIn_of _ (by decide +kernel)) ggX7_count_X7_windOfAll
theorem dX7_count_0 : decode cX7_count 0 = .ok (.iload_n 1, 1) := by decide +kernel
theorem dX7_count_1 : decode cX7_count 1 = .ok (.tableswitch 144 0 10 #[59, 64, 69, 74, 82, 90, 98, 124, 129, 134, 139], 59) := by decide +kernel
theorem dX7_count_60 : decode cX7_count 60 = .ok (.aload_n 0, 1) := by decide +kernel
theorem dX7_count_61 : decode cX7_count 61 = .ok (.getfield 65, 3) := by decide +kernel
theorem dX7_count_64 : decode cX7_count 64 = .ok (.ireturn, 1) := by decide +kernel
theorem dX7_count_65 : decode cX7_count 65 = .ok (.aload_n 0, 1) := by decide +kernel
theorem dX7_count_66 : decode cX7_count 66 = .ok (.getfield 93, 3) := by decide +kernel
theorem dX7_count_69 : decode cX7_count 69 = .ok (.ireturn, 1) := by decide +kernel
theorem dX7_count_70 : decode cX7_count 70 = .ok (.aload_n 0, 1) := by decide +kernel
theorem dX7_count_71 : decode cX7_count 71 = .ok (.getfield 96, 3) := by decide +kernel
theorem dX7_count_74 : decode cX7_count 74 = .ok (.ireturn, 1) := by decide +kernel
theorem dX7_count_75 : decode cX7_count 75 = .ok (.aload_n 0, 1) := by decide +kernel
theorem dX7_count_76 : decode cX7_count 76 = .ok (.getfield 22, 3) := by decide +kernel
theorem dX7_count_79 : decode cX7_count 79 = .ok (.bipush 13, 2) := by decide +kernel
theorem dX7_count_81 : decode cX7_count 81 = .ok (.iaload, 1) := by decide +kernel
theorem dX7_count_82 : decode cX7_count 82 = .ok (.ireturn, 1) := by decide +kernel
theorem dX7_count_83 : decode cX7_count 83 = .ok (.aload_n 0, 1) := by decide +kernel
theorem dX7_count_84 : decode cX7_count 84 = .ok (.getfield 22, 3) := by decide +kernel
theorem dX7_count_87 : decode cX7_count 87 = .ok (.bipush 12, 2) := by decide +kernel
theorem dX7_count_89 : decode cX7_count 89 = .ok (.iaload, 1) := by decide +kernel
theorem dX7_count_90 : decode cX7_count 90 = .ok (.ireturn, 1) := by decide +kernel
theorem dX7_count_91 : decode cX7_count 91 = .ok (.aload_n 0, 1) := by decide +kernel
theorem dX7_count_92 : decode cX7_count 92 = .ok (.getfield 22, 3) := by decide +kernel
theorem dX7_count_95 : decode cX7_count 95 = .ok (.bipush 10, 2) := by decide +kernel
theorem dX7_count_97 : decode cX7_count 97 = .ok (.iaload, 1) := by decide +kernel
theorem dX7_count_98 : decode cX7_count 98 = .ok (.ireturn, 1) := by decide +kernel
theorem dX7_count_99 : decode cX7_count 99 = .ok (.aload_n 0, 1) := by decide +kernel
theorem dX7_count_100 : decode cX7_count 100 = .ok (.getfield 22, 3) := by decide +kernel
theorem dX7_count_103 : decode cX7_count 103 = .ok (.bipush 11, 2) := by decide +kernel
theorem dX7_count_105 : decode cX7_count 105 = .ok (.iaload, 1) := by decide +kernel
theorem dX7_count_106 : decode cX7_count 106 = .ok (.ifCond .ne 7, 3) := by decide +kernel
theorem dX7_count_109 : decode cX7_count 109 = .ok (.iconst 0, 1) := by decide +kernel
theorem dX7_count_110 : decode cX7_count 110 = .ok (.goto 14, 3) := by decide +kernel
theorem dX7_count_113 : decode cX7_count 113 = .ok (.iconst 1, 1) := by decide +kernel
theorem dX7_count_114 : decode cX7_count 114 = .ok (.aload_n 0, 1) := by decide +kernel
theorem dX7_count_115 : decode cX7_count 115 = .ok (.getfield 22, 3) := by decide +kernel
theorem dX7_count_118 : decode cX7_count 118 = .ok (.bipush 11, 2) := by decide +kernel
theorem dX7_count_120 : decode cX7_count 120 = .ok (.iaload, 1) := by decide +kernel
theorem dX7_count_121 : decode cX7_count 121 = .ok (.iconst 1, 1) := by decide +kernel
theorem dX7_count_122 : decode cX7_count 122 = .ok (.isub, 1) := by decide +kernel
theorem dX7_count_123 : decode cX7_count 123 = .ok (.ishl, 1) := by decide +kernel
theorem dX7_count_124 : decode cX7_count 124 = .ok (.ireturn, 1) := by decide +kernel
theorem dX7_count_125 : decode cX7_count 125 = .ok (.aload_n 0, 1) := by decide +kernel
theorem dX7_count_126 : decode cX7_count 126 = .ok (.invokevirtual 253, 3) := by decide +kernel
theorem dX7_count_129 : decode cX7_count 129 = .ok (.ireturn, 1) := by decide +kernel
theorem dX7_count_130 : decode cX7_count 130 = .ok (.aload_n 0, 1) := by decide +kernel
theorem dX7_count_131 : decode cX7_count 131 = .ok (.invokevirtual 256, 3) := by decide +kernel
theorem dX7_count_134 : decode cX7_count 134 = .ok (.ireturn, 1) := by decide +kernel
theorem dX7_count_135 : decode cX7_count 135 = .ok (.aload_n 0, 1) := by decide +kernel
theorem dX7_count_136 : decode cX7_count 136 = .ok (.getfield 102, 3) := by decide +kernel
theorem dX7_count_139 : decode cX7_count 139 = .ok (.ireturn, 1) := by decide +kernel
theorem dX7_count_140 : decode cX7_count 140 = .ok (.aload_n 0, 1) := by decide +kernel
theorem dX7_count_141 : decode cX7_count 141 = .ok (.getfield 209, 3) := by decide +kernel
theorem dX7_count_144 : decode cX7_count 144 = .ok (.ireturn, 1) := by decide +kernel
theorem dX7_count_145 : decode cX7_count 145 = .ok (.bipush (-2), 2) := by decide +kernel
theorem dX7_count_147 : decode cX7_count 147 = .ok (.ireturn, 1) := by decide +kernel
theorem dJ6_bitCount_0f7a4_0 : decode cJ6_bitCount_0f7a4 0 = .ok (.iload_n 0, 1) := by decide +kernel
theorem dJ6_bitCount_0f7a4_1 : decode cJ6_bitCount_0f7a4 1 = .ok (.iload_n 0, 1) := by decide +kernel
theorem dJ6_bitCount_0f7a4_2 : decode cJ6_bitCount_0f7a4 2 = .ok (.iconst 1, 1) := by decide +kernel
theorem dJ6_bitCount_0f7a4_3 : decode cJ6_bitCount_0f7a4 3 = .ok (.iushr, 1) := by decide +kernel
theorem dJ6_bitCount_0f7a4_4 : decode cJ6_bitCount_0f7a4 4 = .ok (.ldc_w 265, 3) := by decide +kernel
theorem dJ6_bitCount_0f7a4_7 : decode cJ6_bitCount_0f7a4 7 = .ok (.iand, 1) := by decide +kernel
theorem dJ6_bitCount_0f7a4_8 : decode cJ6_bitCount_0f7a4 8 = .ok (.isub, 1) := by decide +kernel
theorem dJ6_bitCount_0f7a4_9 : decode cJ6_bitCount_0f7a4 9 = .ok (.istore_n 0, 1) := by decide +kernel
theorem dJ6_bitCount_0f7a4_10 : decode cJ6_bitCount_0f7a4 10 = .ok (.iload_n 0, 1) := by decide +kernel
theorem dJ6_bitCount_0f7a4_11 : decode cJ6_bitCount_0f7a4 11 = .ok (.ldc_w 266, 3) := by decide +kernel
theorem dJ6_bitCount_0f7a4_14 : decode cJ6_bitCount_0f7a4 14 = .ok (.iand, 1) := by decide +kernel
theorem dJ6_bitCount_0f7a4_15 : decode cJ6_bitCount_0f7a4 15 = .ok (.iload_n 0, 1) := by decide +kernel
theorem dJ6_bitCount_0f7a4_16 : decode cJ6_bitCount_0f7a4 16 = .ok (.iconst 2, 1) := by decide +kernel
theorem dJ6_bitCount_0f7a4_17 : decode cJ6_bitCount_0f7a4 17 = .ok (.iushr, 1) := by decide +kernel
theorem dJ6_bitCount_0f7a4_18 : decode cJ6_bitCount_0f7a4 18 = .ok (.ldc_w 266, 3) := by decide +kernel
theorem dJ6_bitCount_0f7a4_21 : decode cJ6_bitCount_0f7a4 21 = .ok (.iand, 1) := by decide +kernel
theorem dJ6_bitCount_0f7a4_22 : decode cJ6_bitCount_0f7a4 22 = .ok (.iadd, 1) := by decide +kernel
theorem dJ6_bitCount_0f7a4_23 : decode cJ6_bitCount_0f7a4 23 = .ok (.istore_n 0, 1) := by decide +kernel
theorem dJ6_bitCount_0f7a4_24 : decode cJ6_bitCount_0f7a4 24 = .ok (.iload_n 0, 1) := by decide +kernel
theorem dJ6_bitCount_0f7a4_25 : decode cJ6_bitCount_0f7a4 25 = .ok (.iload_n 0, 1) := by decide +kernel
theorem dJ6_bitCount_0f7a4_26 : decode cJ6_bitCount_0f7a4 26 = .ok (.iconst 4, 1) := by decide +kernel
theorem dJ6_bitCount_0f7a4_27 : decode cJ6_bitCount_0f7a4 27 = .ok (.iushr, 1) := by decide +kernel
theorem dJ6_bitCount_0f7a4_28 : decode cJ6_bitCount_0f7a4 28 = .ok (.iadd, 1) := by decide +kernel
theorem dJ6_bitCount_0f7a4_29 : decode cJ6_bitCount_0f7a4 29 = .ok (.ldc_w 267, 3) := by decide +kernel
theorem dJ6_bitCount_0f7a4_32 : decode cJ6_bitCount_0f7a4 32 = .ok (.iand, 1) := by decide +kernel
theorem dJ6_bitCount_0f7a4_33 : decode cJ6_bitCount_0f7a4 33 = .ok (.istore_n 0, 1) := by decide +kernel
theorem dJ6_bitCount_0f7a4_34 : decode cJ6_bitCount_0f7a4 34 = .ok (.iload_n 0, 1) := by decide +kernel
theorem dJ6_bitCount_0f7a4_35 : decode cJ6_bitCount_0f7a4 35 = .ok (.iload_n 0, 1) := by decide +kernel
theorem dJ6_bitCount_0f7a4_36 : decode cJ6_bitCount_0f7a4 36 = .ok (.bipush 8, 2) := by decide +kernel
theorem dJ6_bitCount_0f7a4_38 : decode cJ6_bitCount_0f7a4 38 = .ok (.iushr, 1) := by decide +kernel
theorem dJ6_bitCount_0f7a4_39 : decode cJ6_bitCount_0f7a4 39 = .ok (.iadd, 1) := by decide +kernel
theorem dJ6_bitCount_0f7a4_40 : decode cJ6_bitCount_0f7a4 40 = .ok (.istore_n 0, 1) := by decide +kernel
theorem dJ6_bitCount_0f7a4_41 : decode cJ6_bitCount_0f7a4 41 = .ok (.iload_n 0, 1) := by decide +kernel
theorem dJ6_bitCount_0f7a4_42 : decode cJ6_bitCount_0f7a4 42 = .ok (.iload_n 0, 1) := by decide +kernel
theorem dJ6_bitCount_0f7a4_43 : decode cJ6_bitCount_0f7a4 43 = .ok (.bipush 16, 2) := by decide +kernel
theorem dJ6_bitCount_0f7a4_45 : decode cJ6_bitCount_0f7a4 45 = .ok (.iushr, 1) := by decide +kernel
theorem dJ6_bitCount_0f7a4_46 : decode cJ6_bitCount_0f7a4 46 = .ok (.iadd, 1) := by decide +kernel
theorem dJ6_bitCount_0f7a4_47 : decode cJ6_bitCount_0f7a4 47 = .ok (.istore_n 0, 1) := by decide +kernel
theorem dJ6_bitCount_0f7a4_48 : decode cJ6_bitCount_0f7a4 48 = .ok (.iload_n 0, 1) := by decide +kernel
theorem dJ6_bitCount_0f7a4_49 : decode cJ6_bitCount_0f7a4 49 = .ok (.bipush 63, 2) := by decide +kernel
theorem dJ6_bitCount_0f7a4_51 : decode cJ6_bitCount_0f7a4 51 = .ok (.iand, 1) := by decide +kernel
theorem dJ6_bitCount_0f7a4_52 : decode cJ6_bitCount_0f7a4 52 = .ok (.ireturn, 1) := by decide +kernel
theorem dJ9_max_7cf53_0 : decode cJ9_max_7cf53 0 = .ok (.iload_n 0, 1) := by decide +kernel
theorem dJ9_max_7cf53_1 : decode cJ9_max_7cf53 1 = .ok (.iload_n 1, 1) := by decide +kernel
theorem dJ9_max_7cf53_2 : decode cJ9_max_7cf53 2 = .ok (.if_icmp .lt 7, 3) := by decide +kernel
theorem dJ9_max_7cf53_5 : decode cJ9_max_7cf53 5 = .ok (.iload_n 0, 1) := by decide +kernel
theorem dJ9_max_7cf53_6 : decode cJ9_max_7cf53 6 = .ok (.goto 4, 3) := by decide +kernel
theorem dJ9_max_7cf53_9 : decode cJ9_max_7cf53 9 = .ok (.iload_n 1, 1) := by decide +kernel
theorem dJ9_max_7cf53_10 : decode cJ9_max_7cf53 10 = .ok (.ireturn, 1) := by decide +kernel
theorem dJ9_min_7cf53_0 : decode cJ9_min_7cf53 0 = .ok (.iload_n 0, 1) := by decide +kernel
theorem dJ9_min_7cf53_1 : decode cJ9_min_7cf53 1 = .ok (.iload_n 1, 1) := by decide +kernel
theorem dJ9_min_7cf53_2 : decode cJ9_min_7cf53 2 = .ok (.if_icmp .gt 7, 3) := by decide +kernel
theorem dJ9_min_7cf53_5 : decode cJ9_min_7cf53 5 = .ok (.iload_n 0, 1) := by decide +kernel
theorem dJ9_min_7cf53_6 : decode cJ9_min_7cf53 6 = .ok (.goto 4, 3) := by decide +kernel
theorem dJ9_min_7cf53_9 : decode cJ9_min_7cf53 9 = .ok (.iload_n 1, 1) := by decide +kernel
theorem dJ9_min_7cf53_10 : decode cJ9_min_7cf53 10 = .ok (.ireturn, 1) := by decide +kernel
theorem dJ7_fill_53178_0 : decode cJ7_fill_53178 0 = .ok (.iconst 0, 1) := by decide +kernel
theorem dJ7_fill_53178_1 : decode cJ7_fill_53178 1 = .ok (.istore_n 2, 1) := by decide +kernel
theorem dJ7_fill_53178_2 : decode cJ7_fill_53178 2 = .ok (.aload_n 0, 1) := by decide +kernel
theorem dJ7_fill_53178_3 : decode cJ7_fill_53178 3 = .ok (.arraylength, 1) := by decide +kernel
theorem dJ7_fill_53178_4 : decode cJ7_fill_53178 4 = .ok (.istore_n 3, 1) := by decide +kernel
theorem dJ7_fill_53178_5 : decode cJ7_fill_53178 5 = .ok (.iload_n 2, 1) := by decide +kernel
theorem dJ7_fill_53178_6 : decode cJ7_fill_53178 6 = .ok (.iload_n 3, 1) := by decide +kernel
theorem dJ7_fill_53178_7 : decode cJ7_fill_53178 7 = .ok (.if_icmp .ge 13, 3) := by decide +kernel
theorem dJ7_fill_53178_10 : decode cJ7_fill_53178 10 = .ok (.aload_n 0, 1) := by decide +kernel
theorem dJ7_fill_53178_11 : decode cJ7_fill_53178 11 = .ok (.iload_n 2, 1) := by decide +kernel
theorem dJ7_fill_53178_12 : decode cJ7_fill_53178 12 = .ok (.iload_n 1, 1) := by decide +kernel
theorem dJ7_fill_53178_13 : decode cJ7_fill_53178 13 = .ok (.iastore, 1) := by decide +kernel
theorem dJ7_fill_53178_14 : decode cJ7_fill_53178 14 = .ok (.iinc 2 1, 3) := by decide +kernel
theorem dJ7_fill_53178_17 : decode cJ7_fill_53178 17 = .ok (.goto (-12), 3) := by decide +kernel
theorem dJ7_fill_53178_20 : decode cJ7_fill_53178 20 = .ok (.return_, 1) := by decide +kernel
abbrev vwCl : List vw_C := [(RX0, TX0, 3), (RX1, TX1, 4), (RX2, TX2, 7), (RX3, TX3, 2), (RX4, TX4, 7), (RX5, TX5, 10), (RX6, TX6, 13), (RX7, TX7, 30)]
