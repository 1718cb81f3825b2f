theorem dX6_gainOfPlaces_1 : decode cX6_gainOfPlaces 1 = .ok (.getfield 35, 3) := by decide +kernel
theorem dX6_gainOfPlaces_4 : decode cX6_gainOfPlaces 4 = .ok (.getfield 118, 3) := by decide +kernel
theorem dX6_gainOfPlaces_7 : decode cX6_gainOfPlaces 7 = .ok (.iload_n 2, 1) := by decide +kernel
theorem dX6_gainOfPlaces_8 : decode cX6_gainOfPlaces 8 = .ok (.iaload, 1) := by decide +kernel
theorem dX6_gainOfPlaces_9 : decode cX6_gainOfPlaces 9 = .ok (.istore_n 3, 1) := by decide +kernel
theorem dX6_gainOfPlaces_10 : decode cX6_gainOfPlaces 10 = .ok (.aload_n 0, 1) := by decide +kernel
theorem dX6_gainOfPlaces_11 : decode cX6_gainOfPlaces 11 = .ok (.getfield 35, 3) := by decide +kernel
theorem dX6_gainOfPlaces_14 : decode cX6_gainOfPlaces 14 = .ok (.getfield 118, 3) := by decide +kernel
theorem dX6_gainOfPlaces_17 : decode cX6_gainOfPlaces 17 = .ok (.iload_n 1, 1) := by decide +kernel
theorem dX6_gainOfPlaces_18 : decode cX6_gainOfPlaces 18 = .ok (.iaload, 1) := by decide +kernel
theorem dX6_gainOfPlaces_19 : decode cX6_gainOfPlaces 19 = .ok (.iload_n 3, 1) := by decide +kernel
theorem dX6_gainOfPlaces_20 : decode cX6_gainOfPlaces 20 = .ok (.if_icmp .ne 5, 3) := by decide +kernel
theorem dX6_gainOfPlaces_23 : decode cX6_gainOfPlaces 23 = .ok (.iconst 0, 1) := by decide +kernel
theorem dX6_gainOfPlaces_24 : decode cX6_gainOfPlaces 24 = .ok (.ireturn, 1) := by decide +kernel
theorem dX6_gainOfPlaces_25 : decode cX6_gainOfPlaces 25 = .ok (.iconst 2, 1) := by decide +kernel
theorem dX6_gainOfPlaces_26 : decode cX6_gainOfPlaces 26 = .ok (.iconst 4, 1) := by decide +kernel
theorem dX6_gainOfPlaces_27 : decode cX6_gainOfPlaces 27 = .ok (.aload_n 0, 1) := by decide +kernel
theorem dX6_gainOfPlaces_28 : decode cX6_gainOfPlaces 28 = .ok (.aload_n 0, 1) := by decide +kernel
theorem dX6_gainOfPlaces_29 : decode cX6_gainOfPlaces 29 = .ok (.getfield 35, 3) := by decide +kernel
theorem dX6_gainOfPlaces_32 : decode cX6_gainOfPlaces 32 = .ok (.iload_n 1, 1) := by decide +kernel
theorem dX6_gainOfPlaces_33 : decode cX6_gainOfPlaces 33 = .ok (.invokevirtual 166, 3) := by decide +kernel
theorem dX6_gainOfPlaces_36 : decode cX6_gainOfPlaces 36 = .ok (.iload_n 3, 1) := by decide +kernel
theorem dX6_gainOfPlaces_37 : decode cX6_gainOfPlaces 37 = .ok (.ishr, 1) := by decide +kernel
theorem dX6_gainOfPlaces_38 : decode cX6_gainOfPlaces 38 = .ok (.iconst 1, 1) := by decide +kernel
theorem dX6_gainOfPlaces_39 : decode cX6_gainOfPlaces 39 = .ok (.iand, 1) := by decide +kernel
theorem dX6_gainOfPlaces_40 : decode cX6_gainOfPlaces 40 = .ok (.imul, 1) := by decide +kernel
theorem dX6_gainOfPlaces_41 : decode cX6_gainOfPlaces 41 = .ok (.iadd, 1) := by decide +kernel
theorem dX6_gainOfPlaces_42 : decode cX6_gainOfPlaces 42 = .ok (.ireturn, 1) := by decide +kernel
theorem dX6_isAtRest_0 : decode cX6_isAtRest 0 = .ok (.iload_n 1, 1) := by decide +kernel
theorem dX6_isAtRest_1 : decode cX6_isAtRest 1 = .ok (.iconst 3, 1) := by decide +kernel
theorem dX6_isAtRest_2 : decode cX6_isAtRest 2 = .ok (.idiv, 1) := by decide +kernel
theorem dX6_isAtRest_3 : decode cX6_isAtRest 3 = .ok (.istore_n 2, 1) := by decide +kernel
theorem dX6_isAtRest_4 : decode cX6_isAtRest 4 = .ok (.iload_n 1, 1) := by decide +kernel
theorem dX6_isAtRest_5 : decode cX6_isAtRest 5 = .ok (.iconst 3, 1) := by decide +kernel
theorem dX6_isAtRest_6 : decode cX6_isAtRest 6 = .ok (.irem, 1) := by decide +kernel
theorem dX6_isAtRest_7 : decode cX6_isAtRest 7 = .ok (.istore_n 3, 1) := by decide +kernel
theorem dX6_isAtRest_8 : decode cX6_isAtRest 8 = .ok (.iconst 0, 1) := by decide +kernel
theorem dX6_isAtRest_9 : decode cX6_isAtRest 9 = .ok (.istore 4, 2) := by decide +kernel
theorem dX6_isAtRest_11 : decode cX6_isAtRest 11 = .ok (.iload 4, 2) := by decide +kernel
theorem dX6_isAtRest_13 : decode cX6_isAtRest 13 = .ok (.iconst 3, 1) := by decide +kernel
theorem dX6_isAtRest_14 : decode cX6_isAtRest 14 = .ok (.if_icmp .ge 51, 3) := by decide +kernel
theorem dX6_isAtRest_17 : decode cX6_isAtRest 17 = .ok (.aload_n 0, 1) := by decide +kernel
theorem dX6_isAtRest_18 : decode cX6_isAtRest 18 = .ok (.getfield 67, 3) := by decide +kernel
theorem dX6_isAtRest_21 : decode cX6_isAtRest 21 = .ok (.iload 4, 2) := by decide +kernel
theorem dX6_isAtRest_23 : decode cX6_isAtRest 23 = .ok (.iconst 3, 1) := by decide +kernel
theorem dX6_isAtRest_24 : decode cX6_isAtRest 24 = .ok (.imul, 1) := by decide +kernel
theorem dX6_isAtRest_25 : decode cX6_isAtRest 25 = .ok (.iload_n 3, 1) := by decide +kernel
theorem dX6_isAtRest_26 : decode cX6_isAtRest 26 = .ok (.iadd, 1) := by decide +kernel
theorem dX6_isAtRest_27 : decode cX6_isAtRest 27 = .ok (.iaload, 1) := by decide +kernel
theorem dX6_isAtRest_28 : decode cX6_isAtRest 28 = .ok (.aload_n 0, 1) := by decide +kernel
theorem dX6_isAtRest_29 : decode cX6_isAtRest 29 = .ok (.getfield 67, 3) := by decide +kernel
theorem dX6_isAtRest_32 : decode cX6_isAtRest 32 = .ok (.iload_n 1, 1) := by decide +kernel
theorem dX6_isAtRest_33 : decode cX6_isAtRest 33 = .ok (.iaload, 1) := by decide +kernel
theorem dX6_isAtRest_34 : decode cX6_isAtRest 34 = .ok (.if_icmp .gt 23, 3) := by decide +kernel
theorem dX6_isAtRest_37 : decode cX6_isAtRest 37 = .ok (.aload_n 0, 1) := by decide +kernel
theorem dX6_isAtRest_38 : decode cX6_isAtRest 38 = .ok (.getfield 71, 3) := by decide +kernel
theorem dX6_isAtRest_41 : decode cX6_isAtRest 41 = .ok (.iload_n 2, 1) := by decide +kernel
theorem dX6_isAtRest_42 : decode cX6_isAtRest 42 = .ok (.iconst 3, 1) := by decide +kernel
theorem dX6_isAtRest_43 : decode cX6_isAtRest 43 = .ok (.imul, 1) := by decide +kernel
theorem dX6_isAtRest_44 : decode cX6_isAtRest 44 = .ok (.iload 4, 2) := by decide +kernel
theorem dX6_isAtRest_46 : decode cX6_isAtRest 46 = .ok (.iadd, 1) := by decide +kernel
theorem dX6_isAtRest_47 : decode cX6_isAtRest 47 = .ok (.iaload, 1) := by decide +kernel
theorem dX6_isAtRest_48 : decode cX6_isAtRest 48 = .ok (.aload_n 0, 1) := by decide +kernel
theorem dX6_isAtRest_49 : decode cX6_isAtRest 49 = .ok (.getfield 71, 3) := by decide +kernel
theorem dX6_isAtRest_52 : decode cX6_isAtRest 52 = .ok (.iload_n 1, 1) := by decide +kernel
theorem dX6_isAtRest_53 : decode cX6_isAtRest 53 = .ok (.iaload, 1) := by decide +kernel
theorem dX6_isAtRest_54 : decode cX6_isAtRest 54 = .ok (.if_icmp .le 5, 3) := by decide +kernel
theorem dX6_isAtRest_57 : decode cX6_isAtRest 57 = .ok (.iconst 0, 1) := by decide +kernel
theorem dX6_isAtRest_58 : decode cX6_isAtRest 58 = .ok (.ireturn, 1) := by decide +kernel
theorem dX6_isAtRest_59 : decode cX6_isAtRest 59 = .ok (.iinc 4 1, 3) := by decide +kernel
theorem dX6_isAtRest_62 : decode cX6_isAtRest 62 = .ok (.goto (-51), 3) := by decide +kernel
theorem dX6_isAtRest_65 : decode cX6_isAtRest 65 = .ok (.iconst 1, 1) := by decide +kernel
theorem dX6_isAtRest_66 : decode cX6_isAtRest 66 = .ok (.ireturn, 1) := by decide +kernel
set_option maxRecDepth 20000 in
theorem ggX6_pairsAtRest_X6_isAtRest : GoodIn wsX6_pairsAtRest wsX6_isAtRest := goodIn_r _ [5, 6, 7, 8, 9, 10, 11, 12, 13, 14, 15, 16, 17, 18, 19, 20] (by decide +kernel) (by decide +kernel)
set_option maxRecDepth 20000 in
theorem gX6_pairsAtRest_X6_isAtRest : GoodIn wsX6_pairsAtRest (wsV RX6 276 RX6 yX6_isAtRest wsX6_isAtRest) := goodIn_app (goodIn_of _ (by decide +kernel)) ggX6_pairsAtRest_X6_isAtRest
theorem dX6_pairsAtRest_0 : decode cX6_pairsAtRest 0 = .ok (.iconst 0, 1) := by decide +kernel
theorem dX6_pairsAtRest_1 : decode cX6_pairsAtRest 1 = .ok (.istore_n 1, 1) := by decide +kernel
theorem dX6_pairsAtRest_2 : decode cX6_pairsAtRest 2 = .ok (.iconst 0, 1) := by decide +kernel
theorem dX6_pairsAtRest_3 : decode cX6_pairsAtRest 3 = .ok (.istore_n 2, 1) := by decide +kernel
theorem dX6_pairsAtRest_4 : decode cX6_pairsAtRest 4 = .ok (.iload_n 2, 1) := by decide +kernel
theorem dX6_pairsAtRest_5 : decode cX6_pairsAtRest 5 = .ok (.bipush 9, 2) := by decide +kernel
theorem dX6_pairsAtRest_7 : decode cX6_pairsAtRest 7 = .ok (.if_icmp .ge 25, 3) := by decide +kernel
theorem dX6_pairsAtRest_10 : decode cX6_pairsAtRest 10 = .ok (.iload_n 1, 1) := by decide +kernel
theorem dX6_pairsAtRest_11 : decode cX6_pairsAtRest 11 = .ok (.aload_n 0, 1) := by decide +kernel
theorem dX6_pairsAtRest_12 : decode cX6_pairsAtRest 12 = .ok (.iload_n 2, 1) := by decide +kernel
theorem dX6_pairsAtRest_13 : decode cX6_pairsAtRest 13 = .ok (.invokevirtual 276, 3) := by decide +kernel
theorem dX6_pairsAtRest_16 : decode cX6_pairsAtRest 16 = .ok (.ifCond .eq 7, 3) := by decide +kernel
theorem dX6_pairsAtRest_19 : decode cX6_pairsAtRest 19 = .ok (.iconst 1, 1) := by decide +kernel
theorem dX6_pairsAtRest_20 : decode cX6_pairsAtRest 20 = .ok (.goto 4, 3) := by decide +kernel
theorem dX6_pairsAtRest_23 : decode cX6_pairsAtRest 23 = .ok (.iconst 0, 1) := by decide +kernel
theorem dX6_pairsAtRest_24 : decode cX6_pairsAtRest 24 = .ok (.iadd, 1) := by decide +kernel
theorem dX6_pairsAtRest_25 : decode cX6_pairsAtRest 25 = .ok (.istore_n 1, 1) := by decide +kernel
theorem dX6_pairsAtRest_26 : decode cX6_pairsAtRest 26 = .ok (.iinc 2 1, 3) := by decide +kernel
theorem dX6_pairsAtRest_29 : decode cX6_pairsAtRest 29 = .ok (.goto (-25), 3) := by decide +kernel
theorem dX6_pairsAtRest_32 : decode cX6_pairsAtRest 32 = .ok (.iload_n 1, 1) := by decide +kernel
theorem dX6_pairsAtRest_33 : decode cX6_pairsAtRest 33 = .ok (.ireturn, 1) := by decide +kernel
set_option maxRecDepth 20000 in
theorem ggX6_firstPairAtRest_X6_isAtRest : GoodIn wsX6_firstPairAtRest wsX6_isAtRest := goodIn_r _ [5, 6, 7, 8, 9, 10, 11, 12, 13, 14, 15, 16, 17, 18, 19, 20] (by decide +kernel) (by decide +kernel)
set_option maxRecDepth 20000 in
theorem gX6_firstPairAtRest_X6_isAtRest : GoodIn wsX6_firstPairAtRest (wsV RX6 276 RX6 yX6_isAtRest wsX6_isAtRest) := goodIn_app (goodIn_of _ (by decide +kernel)) ggX6_firstPairAtRest_X6_isAtRest
theorem dX6_firstPairAtRest_0 : decode cX6_firstPairAtRest 0 = .ok (.iconst 0, 1) := by decide +kernel
theorem dX6_firstPairAtRest_1 : decode cX6_firstPairAtRest 1 = .ok (.istore_n 1, 1) := by decide +kernel
theorem dX6_firstPairAtRest_2 : decode cX6_firstPairAtRest 2 = .ok (.iload_n 1, 1) := by decide +kernel
theorem dX6_firstPairAtRest_3 : decode cX6_firstPairAtRest 3 = .ok (.bipush 9, 2) := by decide +kernel
theorem dX6_firstPairAtRest_5 : decode cX6_firstPairAtRest 5 = .ok (.if_icmp .ge 28, 3) := by decide +kernel
theorem dX6_firstPairAtRest_8 : decode cX6_firstPairAtRest 8 = .ok (.aload_n 0, 1) := by decide +kernel
theorem dX6_firstPairAtRest_9 : decode cX6_firstPairAtRest 9 = .ok (.iload_n 1, 1) := by decide +kernel
theorem dX6_firstPairAtRest_10 : decode cX6_firstPairAtRest 10 = .ok (.invokevirtual 276, 3) := by decide +kernel
theorem dX6_firstPairAtRest_13 : decode cX6_firstPairAtRest 13 = .ok (.ifCond .eq 14, 3) := by decide +kernel
theorem dX6_firstPairAtRest_16 : decode cX6_firstPairAtRest 16 = .ok (.bipush 10, 2) := by decide +kernel
theorem dX6_firstPairAtRest_18 : decode cX6_firstPairAtRest 18 = .ok (.iload_n 1, 1) := by decide +kernel
theorem dX6_firstPairAtRest_19 : decode cX6_firstPairAtRest 19 = .ok (.iconst 3, 1) := by decide +kernel
theorem dX6_firstPairAtRest_20 : decode cX6_firstPairAtRest 20 = .ok (.idiv, 1) := by decide +kernel
theorem dX6_firstPairAtRest_21 : decode cX6_firstPairAtRest 21 = .ok (.imul, 1) := by decide +kernel
theorem dX6_firstPairAtRest_22 : decode cX6_firstPairAtRest 22 = .ok (.iload_n 1, 1) := by decide +kernel
theorem dX6_firstPairAtRest_23 : decode cX6_firstPairAtRest 23 = .ok (.iconst 3, 1) := by decide +kernel
theorem dX6_firstPairAtRest_24 : decode cX6_firstPairAtRest 24 = .ok (.irem, 1) := by decide +kernel
theorem dX6_firstPairAtRest_25 : decode cX6_firstPairAtRest 25 = .ok (.iadd, 1) := by decide +kernel
theorem dX6_firstPairAtRest_26 : decode cX6_firstPairAtRest 26 = .ok (.ireturn, 1) := by decide +kernel
theorem dX6_firstPairAtRest_27 : decode cX6_firstPairAtRest 27 = .ok (.iinc 1 1, 3) := by decide +kernel
theorem dX6_firstPairAtRest_30 : decode cX6_firstPairAtRest 30 = .ok (.goto (-28), 3) := by decide +kernel
theorem dX6_firstPairAtRest_33 : decode cX6_firstPairAtRest 33 = .ok (.bipush (-9), 2) := by decide +kernel
theorem dX6_firstPairAtRest_35 : decode cX6_firstPairAtRest 35 = .ok (.ireturn, 1) := by decide +kernel
theorem dX7_init_0 : decode cX7_init 0 = .ok (.aload_n 0, 1) := by decide +kernel
theorem dX7_init_1 : decode cX7_init 1 = .ok (.invokespecial 1, 3) := by decide +kernel
theorem dX7_init_4 : decode cX7_init 4 = .ok (.aload_n 0, 1) := by decide +kernel
theorem dX7_init_5 : decode cX7_init 5 = .ok (.bipush 10, 2) := by decide +kernel
theorem dX7_init_7 : decode cX7_init 7 = .ok (.newarray .int, 2) := by decide +kernel
theorem dX7_init_9 : decode cX7_init 9 = .ok (.putfield 7, 3) := by decide +kernel
theorem dX7_init_12 : decode cX7_init 12 = .ok (.aload_n 0, 1) := by decide +kernel
theorem dX7_init_13 : decode cX7_init 13 = .ok (.bipush 10, 2) := by decide +kernel
theorem dX7_init_15 : decode cX7_init 15 = .ok (.newarray .int, 2) := by decide +kernel
theorem dX7_init_17 : decode cX7_init 17 = .ok (.putfield 13, 3) := by decide +kernel
theorem dX7_init_20 : decode cX7_init 20 = .ok (.aload_n 0, 1) := by decide +kernel
theorem dX7_init_21 : decode cX7_init 21 = .ok (.iconst 5, 1) := by decide +kernel
theorem dX7_init_22 : decode cX7_init 22 = .ok (.newarray .int, 2) := by decide +kernel
theorem dX7_init_24 : decode cX7_init 24 = .ok (.putfield 16, 3) := by decide +kernel
theorem dX7_init_27 : decode cX7_init 27 = .ok (.aload_n 0, 1) := by decide +kernel
theorem dX7_init_28 : decode cX7_init 28 = .ok (.iconst 5, 1) := by decide +kernel
theorem dX7_init_29 : decode cX7_init 29 = .ok (.newarray .int, 2) := by decide +kernel
theorem dX7_init_31 : decode cX7_init 31 = .ok (.putfield 19, 3) := by decide +kernel
theorem dX7_init_34 : decode cX7_init 34 = .ok (.aload_n 0, 1) := by decide +kernel
theorem dX7_init_35 : decode cX7_init 35 = .ok (.bipush 28, 2) := by decide +kernel
theorem dX7_init_37 : decode cX7_init 37 = .ok (.newarray .int, 2) := by decide +kernel
theorem dX7_init_39 : decode cX7_init 39 = .ok (.putfield 22, 3) := by decide +kernel
theorem dX7_init_42 : decode cX7_init 42 = .ok (.aload_n 0, 1) := by decide +kernel
theorem dX7_init_43 : decode cX7_init 43 = .ok (.bipush 20, 2) := by decide +kernel
theorem dX7_init_45 : decode cX7_init 45 = .ok (.newarray .int, 2) := by decide +kernel
theorem dX7_init_47 : decode cX7_init 47 = .ok (.putfield 25, 3) := by decide +kernel
theorem dX7_init_50 : decode cX7_init 50 = .ok (.aload_n 0, 1) := by decide +kernel
theorem dX7_init_51 : decode cX7_init 51 = .ok (.bipush 15, 2) := by decide +kernel
theorem dX7_init_53 : decode cX7_init 53 = .ok (.newarray .int, 2) := by decide +kernel
theorem dX7_init_55 : decode cX7_init 55 = .ok (.putfield 28, 3) := by decide +kernel
theorem dX7_init_58 : decode cX7_init 58 = .ok (.aload_n 0, 1) := by decide +kernel
theorem dX7_init_59 : decode cX7_init 59 = .ok (.bipush 52, 2) := by decide +kernel
theorem dX7_init_61 : decode cX7_init 61 = .ok (.newarray .int, 2) := by decide +kernel
theorem dX7_init_63 : decode cX7_init 63 = .ok (.putfield 31, 3) := by decide +kernel
theorem dX7_init_66 : decode cX7_init 66 = .ok (.aload_n 0, 1) := by decide +kernel
theorem dX7_init_67 : decode cX7_init 67 = .ok (.sipush 196, 3) := by decide +kernel
theorem dX7_init_70 : decode cX7_init 70 = .ok (.newarray .int, 2) := by decide +kernel
theorem dX7_init_72 : decode cX7_init 72 = .ok (.putfield 34, 3) := by decide +kernel
theorem dX7_init_75 : decode cX7_init 75 = .ok (.aload_n 0, 1) := by decide +kernel
theorem dX7_init_76 : decode cX7_init 76 = .ok (.sipush 1210, 3) := by decide +kernel
theorem dX7_init_79 : decode cX7_init 79 = .ok (.newarray .int, 2) := by decide +kernel
theorem dX7_init_81 : decode cX7_init 81 = .ok (.putfield 37, 3) := by decide +kernel
theorem dX7_init_84 : decode cX7_init 84 = .ok (.aload_n 0, 1) := by decide +kernel
theorem dX7_init_85 : decode cX7_init 85 = .ok (.sipush 1210, 3) := by decide +kernel
theorem dX7_init_88 : decode cX7_init 88 = .ok (.newarray .int, 2) := by decide +kernel
theorem dX7_init_90 : decode cX7_init 90 = .ok (.putfield 40, 3) := by decide +kernel
theorem dX7_init_93 : decode cX7_init 93 = .ok (.aload_n 0, 1) := by decide +kernel
theorem dX7_init_94 : decode cX7_init 94 = .ok (.bipush 6, 2) := by decide +kernel
theorem dX7_init_96 : decode cX7_init 96 = .ok (.newarray .int, 2) := by decide +kernel
theorem dX7_init_98 : decode cX7_init 98 = .ok (.putfield 43, 3) := by decide +kernel
theorem dX7_init_101 : decode cX7_init 101 = .ok (.aload_n 0, 1) := by decide +kernel
theorem dX7_init_102 : decode cX7_init 102 = .ok (.bipush 6, 2) := by decide +kernel
theorem dX7_init_104 : decode cX7_init 104 = .ok (.newarray .int, 2) := by decide +kernel
theorem dX7_init_106 : decode cX7_init 106 = .ok (.putfield 46, 3) := by decide +kernel
theorem dX7_init_109 : decode cX7_init 109 = .ok (.aload_n 0, 1) := by decide +kernel
theorem dX7_init_110 : decode cX7_init 110 = .ok (.iconst 5, 1) := by decide +kernel
theorem dX7_init_111 : decode cX7_init 111 = .ok (.newarray .int, 2) := by decide +kernel
theorem dX7_init_113 : decode cX7_init 113 = .ok (.putfield 49, 3) := by decide +kernel
theorem dX7_init_116 : decode cX7_init 116 = .ok (.aload_n 0, 1) := by decide +kernel
theorem dX7_init_117 : decode cX7_init 117 = .ok (.iconst 2, 1) := by decide +kernel
theorem dX7_init_118 : decode cX7_init 118 = .ok (.newarray .boolean, 2) := by decide +kernel
theorem dX7_init_120 : decode cX7_init 120 = .ok (.putfield 52, 3) := by decide +kernel
theorem dX7_init_123 : decode cX7_init 123 = .ok (.aload_n 0, 1) := by decide +kernel
theorem dX7_init_124 : decode cX7_init 124 = .ok (.bipush 28, 2) := by decide +kernel
theorem dX7_init_126 : decode cX7_init 126 = .ok (.newarray .int, 2) := by decide +kernel
theorem dX7_init_128 : decode cX7_init 128 = .ok (.putfield 56, 3) := by decide +kernel
theorem dX7_init_131 : decode cX7_init 131 = .ok (.return_, 1) := by decide +kernel
theorem dX7_in_0 : decode cX7_in 0 = .ok (.lload_n 0, 1) := by decide +kernel
theorem dX7_in_1 : decode cX7_in 1 = .ok (.lload_n 2, 1) := by decide +kernel
theorem dX7_in_2 : decode cX7_in 2 = .ok (.lcmp, 1) := by decide +kernel
theorem dX7_in_3 : decode cX7_in 3 = .ok (.ifCond .lt 14, 3) := by decide +kernel
theorem dX7_in_6 : decode cX7_in 6 = .ok (.lload_n 0, 1) := by decide +kernel
theorem dX7_in_7 : decode cX7_in 7 = .ok (.lload 4, 2) := by decide +kernel
theorem dX7_in_9 : decode cX7_in 9 = .ok (.lcmp, 1) := by decide +kernel
theorem dX7_in_10 : decode cX7_in 10 = .ok (.ifCond .gt 7, 3) := by decide +kernel
theorem dX7_in_13 : decode cX7_in 13 = .ok (.iconst 1, 1) := by decide +kernel
theorem dX7_in_14 : decode cX7_in 14 = .ok (.goto 4, 3) := by decide +kernel
theorem dX7_in_17 : decode cX7_in 17 = .ok (.iconst 0, 1) := by decide +kernel
theorem dX7_in_18 : decode cX7_in 18 = .ok (.ireturn, 1) := by decide +kernel
theorem dX7_has_0 : decode cX7_has 0 = .ok (.iload_n 0, 1) := by decide +kernel
theorem dX7_has_1 : decode cX7_has 1 = .ok (.iload_n 1, 1) := by decide +kernel
theorem dX7_has_2 : decode cX7_has 2 = .ok (.ishr, 1) := by decide +kernel
theorem dX7_has_3 : decode cX7_has 3 = .ok (.iconst 1, 1) := by decide +kernel
theorem dX7_has_4 : decode cX7_has 4 = .ok (.iand, 1) := by decide +kernel
theorem dX7_has_5 : decode cX7_has 5 = .ok (.iconst 1, 1) := by decide +kernel
theorem dX7_has_6 : decode cX7_has 6 = .ok (.if_icmp .ne 7, 3) := by decide +kernel
theorem dX7_has_9 : decode cX7_has 9 = .ok (.iconst 1, 1) := by decide +kernel
theorem dX7_has_10 : decode cX7_has 10 = .ok (.goto 4, 3) := by decide +kernel
theorem dX7_has_13 : decode cX7_has 13 = .ok (.iconst 0, 1) := by decide +kernel
theorem dX7_has_14 : decode cX7_has 14 = .ok (.ireturn, 1) := by decide +kernel
theorem dX7_ones_0 : decode cX7_ones 0 = .ok (.iconst 0, 1) := by decide +kernel
theorem dX7_ones_1 : decode cX7_ones 1 = .ok (.istore_n 1, 1) := by decide +kernel
theorem dX7_ones_2 : decode cX7_ones 2 = .ok (.iconst 0, 1) := by decide +kernel
theorem dX7_ones_3 : decode cX7_ones 3 = .ok (.istore_n 2, 1) := by decide +kernel
theorem dX7_ones_4 : decode cX7_ones 4 = .ok (.iload_n 2, 1) := by decide +kernel
theorem dX7_ones_5 : decode cX7_ones 5 = .ok (.bipush 11, 2) := by decide +kernel
theorem dX7_ones_7 : decode cX7_ones 7 = .ok (.if_icmp .ge 17, 3) := by decide +kernel
theorem dX7_ones_10 : decode cX7_ones 10 = .ok (.iload_n 1, 1) := by decide +kernel
theorem dX7_ones_11 : decode cX7_ones 11 = .ok (.iload_n 0, 1) := by decide +kernel
theorem dX7_ones_12 : decode cX7_ones 12 = .ok (.iload_n 2, 1) := by decide +kernel
theorem dX7_ones_13 : decode cX7_ones 13 = .ok (.ishr, 1) := by decide +kernel
theorem dX7_ones_14 : decode cX7_ones 14 = .ok (.iconst 1, 1) := by decide +kernel
theorem dX7_ones_15 : decode cX7_ones 15 = .ok (.iand, 1) := by decide +kernel
theorem dX7_ones_16 : decode cX7_ones 16 = .ok (.iadd, 1) := by decide +kernel
theorem dX7_ones_17 : decode cX7_ones 17 = .ok (.istore_n 1, 1) := by decide +kernel
theorem dX7_ones_18 : decode cX7_ones 18 = .ok (.iinc 2 1, 3) := by decide +kernel
theorem dX7_ones_21 : decode cX7_ones 21 = .ok (.goto (-17), 3) := by decide +kernel
theorem dX7_ones_24 : decode cX7_ones 24 = .ok (.iload_n 1, 1) := by decide +kernel
theorem dX7_ones_25 : decode cX7_ones 25 = .ok (.ireturn, 1) := by decide +kernel
theorem dX7_atLeast_0 : decode cX7_atLeast 0 = .ok (.iload_n 0, 1) := by decide +kernel
theorem dX7_atLeast_1 : decode cX7_atLeast 1 = .ok (.iload_n 1, 1) := by decide +kernel
theorem dX7_atLeast_2 : decode cX7_atLeast 2 = .ok (.if_icmp .ge 7, 3) := by decide +kernel
theorem dX7_atLeast_5 : decode cX7_atLeast 5 = .ok (.iload_n 1, 1) := by decide +kernel
theorem dX7_atLeast_6 : decode cX7_atLeast 6 = .ok (.goto 4, 3) := by decide +kernel
theorem dX7_atLeast_9 : decode cX7_atLeast 9 = .ok (.iload_n 0, 1) := by decide +kernel
theorem dX7_atLeast_10 : decode cX7_atLeast 10 = .ok (.ireturn, 1) := by decide +kernel
set_option maxRecDepth 20000 in
theorem ggX7_write_X7_in : GoodIn wsX7_write wsX7_in := goodIn_r _ [7] (by decide +kernel) (by decide +kernel)
set_option maxRecDepth 20000 in
theorem gX7_write_X7_in : GoodIn wsX7_write (va_wsS RX7 61 yX7_in wsX7_in) := goodIn_app (goodIn_of _ (by decide +kernel)) ggX7_write_X7_in
theorem dX7_write_0 : decode cX7_write 0 = .ok (.iload_n 1, 1) := by decide +kernel
theorem dX7_write_1 : decode cX7_write 1 = .ok (.i2l, 1) := by decide +kernel
theorem dX7_write_2 : decode cX7_write 2 = .ok (.lconst 0, 1) := by decide +kernel
theorem dX7_write_3 : decode cX7_write 3 = .ok (.ldc2_w 59, 3) := by decide +kernel
theorem dX7_write_6 : decode cX7_write 6 = .ok (.invokestatic 61, 3) := by decide +kernel
theorem dX7_write_9 : decode cX7_write 9 = .ok (.ifCond .ne 6, 3) := by decide +kernel
theorem dX7_write_12 : decode cX7_write 12 = .ok (.bipush (-2), 2) := by decide +kernel
theorem dX7_write_14 : decode cX7_write 14 = .ok (.ireturn, 1) := by decide +kernel
theorem dX7_write_15 : decode cX7_write 15 = .ok (.aload_n 0, 1) := by decide +kernel
theorem dX7_write_16 : decode cX7_write 16 = .ok (.getfield 65, 3) := by decide +kernel
theorem dX7_write_19 : decode cX7_write 19 = .ok (.bipush 52, 2) := by decide +kernel
theorem dX7_write_21 : decode cX7_write 21 = .ok (.if_icmp .ne 6, 3) := by decide +kernel
theorem dX7_write_24 : decode cX7_write 24 = .ok (.bipush (-4), 2) := by decide +kernel
theorem dX7_write_26 : decode cX7_write 26 = .ok (.ireturn, 1) := by decide +kernel
theorem dX7_write_27 : decode cX7_write 27 = .ok (.aload_n 0, 1) := by decide +kernel
theorem dX7_write_28 : decode cX7_write 28 = .ok (.getfield 31, 3) := by decide +kernel
theorem dX7_write_31 : decode cX7_write 31 = .ok (.aload_n 0, 1) := by decide +kernel
theorem dX7_write_32 : decode cX7_write 32 = .ok (.getfield 65, 3) := by decide +kernel
theorem dX7_write_35 : decode cX7_write 35 = .ok (.iload_n 1, 1) := by decide +kernel
theorem dX7_write_36 : decode cX7_write 36 = .ok (.iastore, 1) := by decide +kernel
theorem dX7_write_37 : decode cX7_write 37 = .ok (.aload_n 0, 1) := by decide +kernel
theorem dX7_write_38 : decode cX7_write 38 = .ok (.dup, 1) := by decide +kernel
theorem dX7_write_39 : decode cX7_write 39 = .ok (.getfield 65, 3) := by decide +kernel
theorem dX7_write_42 : decode cX7_write 42 = .ok (.iconst 1, 1) := by decide +kernel
theorem dX7_write_43 : decode cX7_write 43 = .ok (.iadd, 1) := by decide +kernel
theorem dX7_write_44 : decode cX7_write 44 = .ok (.putfield 65, 3) := by decide +kernel
theorem dX7_write_47 : decode cX7_write 47 = .ok (.aload_n 0, 1) := by decide +kernel
theorem dX7_write_48 : decode cX7_write 48 = .ok (.getfield 65, 3) := by decide +kernel
theorem dX7_write_51 : decode cX7_write 51 = .ok (.ireturn, 1) := by decide +kernel
theorem dX7_wipe_0 : decode cX7_wipe 0 = .ok (.aload_n 0, 1) := by decide +kernel
theorem dX7_wipe_1 : decode cX7_wipe 1 = .ok (.getfield 65, 3) := by decide +kernel
theorem dX7_wipe_4 : decode cX7_wipe 4 = .ok (.istore_n 1, 1) := by decide +kernel
theorem dX7_wipe_5 : decode cX7_wipe 5 = .ok (.aload_n 0, 1) := by decide +kernel
theorem dX7_wipe_6 : decode cX7_wipe 6 = .ok (.iconst 0, 1) := by decide +kernel
theorem dX7_wipe_7 : decode cX7_wipe 7 = .ok (.putfield 65, 3) := by decide +kernel
theorem dX7_wipe_10 : decode cX7_wipe 10 = .ok (.iload_n 1, 1) := by decide +kernel
theorem dX7_wipe_11 : decode cX7_wipe 11 = .ok (.ireturn, 1) := by decide +kernel
set_option maxRecDepth 20000 in
theorem ggX7_figureOf_X7_in : GoodIn wsX7_figureOf wsX7_in := goodIn_r _ [8] (by decide +kernel) (by decide +kernel)
set_option maxRecDepth 20000 in
theorem gX7_figureOf_X7_in : GoodIn wsX7_figureOf (va_wsS RX7 61 yX7_in wsX7_in) := goodIn_app (goodIn_of _ (by decide +kernel)) ggX7_figureOf_X7_in
theorem dX7_figureOf_0 : decode cX7_figureOf 0 = .ok (.aload_n 0, 1) := by decide +kernel
theorem dX7_figureOf_1 : decode cX7_figureOf 1 = .ok (.getfield 69, 3) := by decide +kernel
theorem dX7_figureOf_4 : decode cX7_figureOf 4 = .ok (.bipush (-9), 2) := by decide +kernel
theorem dX7_figureOf_6 : decode cX7_figureOf 6 = .ok (.if_icmp .ne 18, 3) := by decide +kernel
theorem dX7_figureOf_9 : decode cX7_figureOf 9 = .ok (.aload_n 0, 1) := by decide +kernel
theorem dX7_figureOf_10 : decode cX7_figureOf 10 = .ok (.getfield 72, 3) := by decide +kernel
theorem dX7_figureOf_13 : decode cX7_figureOf 13 = .ok (.aload_n 0, 1) := by decide +kernel
theorem dX7_figureOf_14 : decode cX7_figureOf 14 = .ok (.getfield 65, 3) := by decide +kernel
theorem dX7_figureOf_17 : decode cX7_figureOf 17 = .ok (.if_icmp .ge 7, 3) := by decide +kernel
theorem dX7_figureOf_20 : decode cX7_figureOf 20 = .ok (.iconst 1, 1) := by decide +kernel
theorem dX7_figureOf_21 : decode cX7_figureOf 21 = .ok (.goto 4, 3) := by decide +kernel
theorem dX7_figureOf_24 : decode cX7_figureOf 24 = .ok (.iconst 0, 1) := by decide +kernel
theorem dX7_figureOf_25 : decode cX7_figureOf 25 = .ok (.istore_n 3, 1) := by decide +kernel
theorem dX7_figureOf_26 : decode cX7_figureOf 26 = .ok (.iload_n 3, 1) := by decide +kernel
theorem dX7_figureOf_27 : decode cX7_figureOf 27 = .ok (.ifCond .eq 18, 3) := by decide +kernel
theorem dX7_figureOf_30 : decode cX7_figureOf 30 = .ok (.aload_n 0, 1) := by decide +kernel
theorem dX7_figureOf_31 : decode cX7_figureOf 31 = .ok (.getfield 31, 3) := by decide +kernel
theorem dX7_figureOf_34 : decode cX7_figureOf 34 = .ok (.aload_n 0, 1) := by decide +kernel
theorem dX7_figureOf_35 : decode cX7_figureOf 35 = .ok (.getfield 72, 3) := by decide +kernel
theorem dX7_figureOf_38 : decode cX7_figureOf 38 = .ok (.iaload, 1) := by decide +kernel
theorem dX7_figureOf_39 : decode cX7_figureOf 39 = .ok (.bipush 48, 2) := by decide +kernel
theorem dX7_figureOf_41 : decode cX7_figureOf 41 = .ok (.isub, 1) := by decide +kernel
theorem dX7_figureOf_42 : decode cX7_figureOf 42 = .ok (.goto 4, 3) := by decide +kernel
theorem dX7_figureOf_45 : decode cX7_figureOf 45 = .ok (.iconst 0, 1) := by decide +kernel
theorem dX7_figureOf_46 : decode cX7_figureOf 46 = .ok (.istore 4, 2) := by decide +kernel
theorem dX7_figureOf_48 : decode cX7_figureOf 48 = .ok (.iload_n 3, 1) := by decide +kernel
theorem dX7_figureOf_49 : decode cX7_figureOf 49 = .ok (.ifCond .eq 16, 3) := by decide +kernel
theorem dX7_figureOf_52 : decode cX7_figureOf 52 = .ok (.iload 4, 2) := by decide +kernel
theorem dX7_figureOf_54 : decode cX7_figureOf 54 = .ok (.i2l, 1) := by decide +kernel
theorem dX7_figureOf_55 : decode cX7_figureOf 55 = .ok (.iload_n 1, 1) := by decide +kernel
theorem dX7_figureOf_56 : decode cX7_figureOf 56 = .ok (.i2l, 1) := by decide +kernel
theorem dX7_figureOf_57 : decode cX7_figureOf 57 = .ok (.iload_n 2, 1) := by decide +kernel
theorem dX7_figureOf_58 : decode cX7_figureOf 58 = .ok (.i2l, 1) := by decide +kernel
theorem dX7_figureOf_59 : decode cX7_figureOf 59 = .ok (.invokestatic 61, 3) := by decide +kernel
theorem dX7_figureOf_62 : decode cX7_figureOf 62 = .ok (.ifCond .ne 29, 3) := by decide +kernel
theorem dX7_figureOf_65 : decode cX7_figureOf 65 = .ok (.aload_n 0, 1) := by decide +kernel
theorem dX7_figureOf_66 : decode cX7_figureOf 66 = .ok (.aload_n 0, 1) := by decide +kernel
theorem dX7_figureOf_67 : decode cX7_figureOf 67 = .ok (.getfield 69, 3) := by decide +kernel
theorem dX7_figureOf_70 : decode cX7_figureOf 70 = .ok (.bipush (-9), 2) := by decide +kernel
theorem dX7_figureOf_72 : decode cX7_figureOf 72 = .ok (.if_icmp .ne 10, 3) := by decide +kernel
theorem dX7_figureOf_75 : decode cX7_figureOf 75 = .ok (.aload_n 0, 1) := by decide +kernel
theorem dX7_figureOf_76 : decode cX7_figureOf 76 = .ok (.getfield 72, 3) := by decide +kernel
theorem dX7_figureOf_79 : decode cX7_figureOf 79 = .ok (.goto 7, 3) := by decide +kernel
theorem dX7_figureOf_82 : decode cX7_figureOf 82 = .ok (.aload_n 0, 1) := by decide +kernel
theorem dX7_figureOf_83 : decode cX7_figureOf 83 = .ok (.getfield 69, 3) := by decide +kernel
theorem dX7_figureOf_86 : decode cX7_figureOf 86 = .ok (.putfield 69, 3) := by decide +kernel
theorem dX7_figureOf_89 : decode cX7_figureOf 89 = .ok (.iconst 0, 1) := by decide +kernel
theorem dX7_figureOf_90 : decode cX7_figureOf 90 = .ok (.ireturn, 1) := by decide +kernel
theorem dX7_figureOf_91 : decode cX7_figureOf 91 = .ok (.aload_n 0, 1) := by decide +kernel
theorem dX7_figureOf_92 : decode cX7_figureOf 92 = .ok (.dup, 1) := by decide +kernel
theorem dX7_figureOf_93 : decode cX7_figureOf 93 = .ok (.getfield 72, 3) := by decide +kernel
theorem dX7_figureOf_96 : decode cX7_figureOf 96 = .ok (.iconst 1, 1) := by decide +kernel
theorem dX7_figureOf_97 : decode cX7_figureOf 97 = .ok (.iadd, 1) := by decide +kernel
theorem dX7_figureOf_98 : decode cX7_figureOf 98 = .ok (.putfield 72, 3) := by decide +kernel
theorem dX7_figureOf_101 : decode cX7_figureOf 101 = .ok (.iload 4, 2) := by decide +kernel
theorem dX7_figureOf_103 : decode cX7_figureOf 103 = .ok (.ireturn, 1) := by decide +kernel
set_option maxRecDepth 20000 in
theorem ggX7_readText_X7_readPart : GoodIn wsX7_readText wsX7_readPart := goodIn_r _ [11, 3, 1, 12, 4, 13, 2, 14, 15, 16, 10, 17, 5, 6, 18, 19, 20, 21, 22, 23, 24, 25, 26, 27, 28, 29, 30, 31, 32, 33, 34, 35, 36, 37, 38, 39, 40, 41, 42, 43, 44, 45, 46, 47, 48, 49, 50] (by decide +kernel) (by decide +kernel)
set_option maxRecDepth 20000 in
theorem gX7_readText_X7_readPart : GoodIn wsX7_readText (wsV RX7 81 RX7 yX7_readPart wsX7_readPart) := goodIn_app (goodIn_of _ (by decide +kernel)) ggX7_readText_X7_readPart
theorem dX7_readText_0 : decode cX7_readText 0 = .ok (.aload_n 0, 1) := by decide +kernel
theorem dX7_readText_1 : decode cX7_readText 1 = .ok (.iconst 0, 1) := by decide +kernel
theorem dX7_readText_2 : decode cX7_readText 2 = .ok (.putfield 72, 3) := by decide +kernel
theorem dX7_readText_5 : decode cX7_readText 5 = .ok (.aload_n 0, 1) := by decide +kernel
theorem dX7_readText_6 : decode cX7_readText 6 = .ok (.bipush (-9), 2) := by decide +kernel
theorem dX7_readText_8 : decode cX7_readText 8 = .ok (.putfield 69, 3) := by decide +kernel
theorem dX7_readText_11 : decode cX7_readText 11 = .ok (.aload_n 0, 1) := by decide +kernel
theorem dX7_readText_12 : decode cX7_readText 12 = .ok (.iconst 0, 1) := by decide +kernel
theorem dX7_readText_13 : decode cX7_readText 13 = .ok (.putfield 75, 3) := by decide +kernel
theorem dX7_readText_16 : decode cX7_readText 16 = .ok (.aload_n 0, 1) := by decide +kernel
theorem dX7_readText_17 : decode cX7_readText 17 = .ok (.iconst 0, 1) := by decide +kernel
theorem dX7_readText_18 : decode cX7_readText 18 = .ok (.putfield 78, 3) := by decide +kernel
theorem dX7_readText_21 : decode cX7_readText 21 = .ok (.aload_n 0, 1) := by decide +kernel
theorem dX7_readText_22 : decode cX7_readText 22 = .ok (.getfield 65, 3) := by decide +kernel
theorem dX7_readText_25 : decode cX7_readText 25 = .ok (.ifCond .eq 14, 3) := by decide +kernel
theorem dX7_readText_28 : decode cX7_readText 28 = .ok (.aload_n 0, 1) := by decide +kernel
theorem dX7_readText_29 : decode cX7_readText 29 = .ok (.getfield 31, 3) := by decide +kernel
theorem dX7_readText_32 : decode cX7_readText 32 = .ok (.iconst 0, 1) := by decide +kernel
theorem dX7_readText_33 : decode cX7_readText 33 = .ok (.iaload, 1) := by decide +kernel
theorem dX7_readText_34 : decode cX7_readText 34 = .ok (.bipush 82, 2) := by decide +kernel
theorem dX7_readText_36 : decode cX7_readText 36 = .ok (.if_icmp .eq 5, 3) := by decide +kernel
theorem dX7_readText_39 : decode cX7_readText 39 = .ok (.iconst 0, 1) := by decide +kernel
theorem dX7_readText_40 : decode cX7_readText 40 = .ok (.ireturn, 1) := by decide +kernel
theorem dX7_readText_41 : decode cX7_readText 41 = .ok (.aload_n 0, 1) := by decide +kernel
theorem dX7_readText_42 : decode cX7_readText 42 = .ok (.iconst 1, 1) := by decide +kernel
theorem dX7_readText_43 : decode cX7_readText 43 = .ok (.putfield 72, 3) := by decide +kernel
theorem dX7_readText_46 : decode cX7_readText 46 = .ok (.aload_n 0, 1) := by decide +kernel
theorem dX7_readText_47 : decode cX7_readText 47 = .ok (.getfield 69, 3) := by decide +kernel
theorem dX7_readText_50 : decode cX7_readText 50 = .ok (.bipush (-9), 2) := by decide +kernel
theorem dX7_readText_52 : decode cX7_readText 52 = .ok (.if_icmp .ne 30, 3) := by decide +kernel
theorem dX7_readText_55 : decode cX7_readText 55 = .ok (.aload_n 0, 1) := by decide +kernel
theorem dX7_readText_56 : decode cX7_readText 56 = .ok (.getfield 72, 3) := by decide +kernel
theorem dX7_readText_59 : decode cX7_readText 59 = .ok (.aload_n 0, 1) := by decide +kernel
theorem dX7_readText_60 : decode cX7_readText 60 = .ok (.getfield 65, 3) := by decide +kernel
theorem dX7_readText_63 : decode cX7_readText 63 = .ok (.if_icmp .ge 19, 3) := by decide +kernel
theorem dX7_readText_66 : decode cX7_readText 66 = .ok (.aload_n 0, 1) := by decide +kernel
theorem dX7_readText_67 : decode cX7_readText 67 = .ok (.aload_n 0, 1) := by decide +kernel
theorem dX7_readText_68 : decode cX7_readText 68 = .ok (.getfield 31, 3) := by decide +kernel
theorem dX7_readText_71 : decode cX7_readText 71 = .ok (.aload_n 0, 1) := by decide +kernel
theorem dX7_readText_72 : decode cX7_readText 72 = .ok (.getfield 72, 3) := by decide +kernel
theorem dX7_readText_75 : decode cX7_readText 75 = .ok (.iaload, 1) := by decide +kernel
theorem dX7_readText_76 : decode cX7_readText 76 = .ok (.invokevirtual 81, 3) := by decide +kernel
theorem dX7_readText_79 : decode cX7_readText 79 = .ok (.goto (-33), 3) := by decide +kernel
theorem dX7_readText_82 : decode cX7_readText 82 = .ok (.aload_n 0, 1) := by decide +kernel
theorem dX7_readText_83 : decode cX7_readText 83 = .ok (.getfield 69, 3) := by decide +kernel
theorem dX7_readText_86 : decode cX7_readText 86 = .ok (.ireturn, 1) := by decide +kernel
set_option maxRecDepth 20000 in
theorem ggX7_readPart_X7_figureOf : GoodIn wsX7_readPart wsX7_figureOf := goodIn_r _ [11, 6, 2, 12, 13, 14, 15, 10, 16, 17, 18, 19, 20, 21, 22, 23, 24, 25, 26, 27, 28, 29, 30, 31, 32, 33, 34, 35, 36, 37, 38, 39, 40, 41, 42, 43, 44, 45, 46] (by decide +kernel) (by decide +kernel)
set_option maxRecDepth 20000 in
theorem gX7_readPart_X7_figureOf : GoodIn wsX7_readPart (wsV RX7 85 RX7 yX7_figureOf wsX7_figureOf) := goodIn_app (goodIn_of _ (by decide +kernel)) ggX7_readPart_X7_figureOf
theorem dX7_readPart_0 : decode cX7_readPart 0 = .ok (.iload_n 1, 1) := by decide +kernel
theorem dX7_readPart_1 : decode cX7_readPart 1 = .ok (.bipush 70, 2) := by decide +kernel
theorem dX7_readPart_3 : decode cX7_readPart 3 = .ok (.if_icmp .ne 72, 3) := by decide +kernel
theorem dX7_readPart_6 : decode cX7_readPart 6 = .ok (.aload_n 0, 1) := by decide +kernel
theorem dX7_readPart_7 : decode cX7_readPart 7 = .ok (.getfield 75, 3) := by decide +kernel
theorem dX7_readPart_10 : decode cX7_readPart 10 = .ok (.bipush 10, 2) := by decide +kernel
theorem dX7_readPart_12 : decode cX7_readPart 12 = .ok (.if_icmp .ge 63, 3) := by decide +kernel
theorem dX7_readPart_15 : decode cX7_readPart 15 = .ok (.aload_n 0, 1) := by decide +kernel
theorem dX7_readPart_16 : decode cX7_readPart 16 = .ok (.dup, 1) := by decide +kernel
theorem dX7_readPart_17 : decode cX7_readPart 17 = .ok (.getfield 72, 3) := by decide +kernel
theorem dX7_readPart_20 : decode cX7_readPart 20 = .ok (.iconst 1, 1) := by decide +kernel
theorem dX7_readPart_21 : decode cX7_readPart 21 = .ok (.iadd, 1) := by decide +kernel
theorem dX7_readPart_22 : decode cX7_readPart 22 = .ok (.putfield 72, 3) := by decide +kernel
theorem dX7_readPart_25 : decode cX7_readPart 25 = .ok (.aload_n 0, 1) := by decide +kernel
theorem dX7_readPart_26 : decode cX7_readPart 26 = .ok (.getfield 25, 3) := by decide +kernel
theorem dX7_readPart_29 : decode cX7_readPart 29 = .ok (.iconst 2, 1) := by decide +kernel
theorem dX7_readPart_30 : decode cX7_readPart 30 = .ok (.aload_n 0, 1) := by decide +kernel
theorem dX7_readPart_31 : decode cX7_readPart 31 = .ok (.getfield 75, 3) := by decide +kernel
theorem dX7_readPart_34 : decode cX7_readPart 34 = .ok (.imul, 1) := by decide +kernel
theorem dX7_readPart_35 : decode cX7_readPart 35 = .ok (.aload_n 0, 1) := by decide +kernel
theorem dX7_readPart_36 : decode cX7_readPart 36 = .ok (.iconst 1, 1) := by decide +kernel
theorem dX7_readPart_37 : decode cX7_readPart 37 = .ok (.bipush 9, 2) := by decide +kernel
theorem dX7_readPart_39 : decode cX7_readPart 39 = .ok (.invokevirtual 85, 3) := by decide +kernel
theorem dX7_readPart_42 : decode cX7_readPart 42 = .ok (.iastore, 1) := by decide +kernel
theorem dX7_readPart_43 : decode cX7_readPart 43 = .ok (.aload_n 0, 1) := by decide +kernel
theorem dX7_readPart_44 : decode cX7_readPart 44 = .ok (.getfield 25, 3) := by decide +kernel
theorem dX7_readPart_47 : decode cX7_readPart 47 = .ok (.iconst 2, 1) := by decide +kernel
theorem dX7_readPart_48 : decode cX7_readPart 48 = .ok (.aload_n 0, 1) := by decide +kernel
theorem dX7_readPart_49 : decode cX7_readPart 49 = .ok (.getfield 75, 3) := by decide +kernel
theorem dX7_readPart_52 : decode cX7_readPart 52 = .ok (.imul, 1) := by decide +kernel
theorem dX7_readPart_53 : decode cX7_readPart 53 = .ok (.iconst 1, 1) := by decide +kernel
theorem dX7_readPart_54 : decode cX7_readPart 54 = .ok (.iadd, 1) := by decide +kernel
theorem dX7_readPart_55 : decode cX7_readPart 55 = .ok (.aload_n 0, 1) := by decide +kernel
theorem dX7_readPart_56 : decode cX7_readPart 56 = .ok (.iconst 0, 1) := by decide +kernel
theorem dX7_readPart_57 : decode cX7_readPart 57 = .ok (.iconst 3, 1) := by decide +kernel
theorem dX7_readPart_58 : decode cX7_readPart 58 = .ok (.invokevirtual 85, 3) := by decide +kernel
theorem dX7_readPart_61 : decode cX7_readPart 61 = .ok (.iastore, 1) := by decide +kernel
theorem dX7_readPart_62 : decode cX7_readPart 62 = .ok (.aload_n 0, 1) := by decide +kernel
theorem dX7_readPart_63 : decode cX7_readPart 63 = .ok (.dup, 1) := by decide +kernel
theorem dX7_readPart_64 : decode cX7_readPart 64 = .ok (.getfield 75, 3) := by decide +kernel
theorem dX7_readPart_67 : decode cX7_readPart 67 = .ok (.iconst 1, 1) := by decide +kernel
theorem dX7_readPart_68 : decode cX7_readPart 68 = .ok (.iadd, 1) := by decide +kernel
theorem dX7_readPart_69 : decode cX7_readPart 69 = .ok (.putfield 75, 3) := by decide +kernel
theorem dX7_readPart_72 : decode cX7_readPart 72 = .ok (.goto 121, 3) := by decide +kernel
theorem dX7_readPart_75 : decode cX7_readPart 75 = .ok (.iload_n 1, 1) := by decide +kernel
theorem dX7_readPart_76 : decode cX7_readPart 76 = .ok (.bipush 84, 2) := by decide +kernel
theorem dX7_readPart_78 : decode cX7_readPart 78 = .ok (.if_icmp .ne 107, 3) := by decide +kernel
theorem dX7_readPart_81 : decode cX7_readPart 81 = .ok (.aload_n 0, 1) := by decide +kernel
theorem dX7_readPart_82 : decode cX7_readPart 82 = .ok (.getfield 78, 3) := by decide +kernel
theorem dX7_readPart_85 : decode cX7_readPart 85 = .ok (.iconst 5, 1) := by decide +kernel
theorem dX7_readPart_86 : decode cX7_readPart 86 = .ok (.if_icmp .ge 99, 3) := by decide +kernel
theorem dX7_readPart_89 : decode cX7_readPart 89 = .ok (.aload_n 0, 1) := by decide +kernel
theorem dX7_readPart_90 : decode cX7_readPart 90 = .ok (.dup, 1) := by decide +kernel
theorem dX7_readPart_91 : decode cX7_readPart 91 = .ok (.getfield 72, 3) := by decide +kernel
theorem dX7_readPart_94 : decode cX7_readPart 94 = .ok (.iconst 1, 1) := by decide +kernel
theorem dX7_readPart_95 : decode cX7_readPart 95 = .ok (.iadd, 1) := by decide +kernel
theorem dX7_readPart_96 : decode cX7_readPart 96 = .ok (.putfield 72, 3) := by decide +kernel
theorem dX7_readPart_99 : decode cX7_readPart 99 = .ok (.aload_n 0, 1) := by decide +kernel
theorem dX7_readPart_100 : decode cX7_readPart 100 = .ok (.getfield 28, 3) := by decide +kernel
theorem dX7_readPart_103 : decode cX7_readPart 103 = .ok (.iconst 3, 1) := by decide +kernel
theorem dX7_readPart_104 : decode cX7_readPart 104 = .ok (.aload_n 0, 1) := by decide +kernel
theorem dX7_readPart_105 : decode cX7_readPart 105 = .ok (.getfield 78, 3) := by decide +kernel
theorem dX7_readPart_108 : decode cX7_readPart 108 = .ok (.imul, 1) := by decide +kernel
theorem dX7_readPart_109 : decode cX7_readPart 109 = .ok (.aload_n 0, 1) := by decide +kernel
theorem dX7_readPart_110 : decode cX7_readPart 110 = .ok (.iconst 0, 1) := by decide +kernel
theorem dX7_readPart_111 : decode cX7_readPart 111 = .ok (.aload_n 0, 1) := by decide +kernel
theorem dX7_readPart_112 : decode cX7_readPart 112 = .ok (.getfield 75, 3) := by decide +kernel
theorem dX7_readPart_115 : decode cX7_readPart 115 = .ok (.bipush 9, 2) := by decide +kernel
theorem dX7_readPart_117 : decode cX7_readPart 117 = .ok (.if_icmp .ge 10, 3) := by decide +kernel
theorem dX7_readPart_120 : decode cX7_readPart 120 = .ok (.aload_n 0, 1) := by decide +kernel
theorem dX7_readPart_121 : decode cX7_readPart 121 = .ok (.getfield 75, 3) := by decide +kernel
theorem dX7_readPart_124 : decode cX7_readPart 124 = .ok (.goto 5, 3) := by decide +kernel
theorem dX7_readPart_127 : decode cX7_readPart 127 = .ok (.bipush 9, 2) := by decide +kernel
theorem dX7_readPart_129 : decode cX7_readPart 129 = .ok (.invokevirtual 85, 3) := by decide +kernel
theorem dX7_readPart_132 : decode cX7_readPart 132 = .ok (.iastore, 1) := by decide +kernel
theorem dX7_readPart_133 : decode cX7_readPart 133 = .ok (.aload_n 0, 1) := by decide +kernel
theorem dX7_readPart_134 : decode cX7_readPart 134 = .ok (.getfield 28, 3) := by decide +kernel
theorem dX7_readPart_137 : decode cX7_readPart 137 = .ok (.iconst 3, 1) := by decide +kernel
theorem dX7_readPart_138 : decode cX7_readPart 138 = .ok (.aload_n 0, 1) := by decide +kernel
theorem dX7_readPart_139 : decode cX7_readPart 139 = .ok (.getfield 78, 3) := by decide +kernel
theorem dX7_readPart_142 : decode cX7_readPart 142 = .ok (.imul, 1) := by decide +kernel
theorem dX7_readPart_143 : decode cX7_readPart 143 = .ok (.iconst 1, 1) := by decide +kernel
theorem dX7_readPart_144 : decode cX7_readPart 144 = .ok (.iadd, 1) := by decide +kernel
theorem dX7_readPart_145 : decode cX7_readPart 145 = .ok (.aload_n 0, 1) := by decide +kernel
theorem dX7_readPart_146 : decode cX7_readPart 146 = .ok (.iconst 1, 1) := by decide +kernel
theorem dX7_readPart_147 : decode cX7_readPart 147 = .ok (.bipush 9, 2) := by decide +kernel
theorem dX7_readPart_149 : decode cX7_readPart 149 = .ok (.invokevirtual 85, 3) := by decide +kernel
theorem dX7_readPart_152 : decode cX7_readPart 152 = .ok (.iastore, 1) := by decide +kernel
theorem dX7_readPart_153 : decode cX7_readPart 153 = .ok (.aload_n 0, 1) := by decide +kernel
theorem dX7_readPart_154 : decode cX7_readPart 154 = .ok (.getfield 28, 3) := by decide +kernel
theorem dX7_readPart_157 : decode cX7_readPart 157 = .ok (.iconst 3, 1) := by decide +kernel
theorem dX7_readPart_158 : decode cX7_readPart 158 = .ok (.aload_n 0, 1) := by decide +kernel
theorem dX7_readPart_159 : decode cX7_readPart 159 = .ok (.getfield 78, 3) := by decide +kernel
theorem dX7_readPart_162 : decode cX7_readPart 162 = .ok (.imul, 1) := by decide +kernel
theorem dX7_readPart_163 : decode cX7_readPart 163 = .ok (.iconst 2, 1) := by decide +kernel
theorem dX7_readPart_164 : decode cX7_readPart 164 = .ok (.iadd, 1) := by decide +kernel
theorem dX7_readPart_165 : decode cX7_readPart 165 = .ok (.aload_n 0, 1) := by decide +kernel
theorem dX7_readPart_166 : decode cX7_readPart 166 = .ok (.iconst 0, 1) := by decide +kernel
theorem dX7_readPart_167 : decode cX7_readPart 167 = .ok (.iconst 3, 1) := by decide +kernel
theorem dX7_readPart_168 : decode cX7_readPart 168 = .ok (.invokevirtual 85, 3) := by decide +kernel
theorem dX7_readPart_171 : decode cX7_readPart 171 = .ok (.iastore, 1) := by decide +kernel
theorem dX7_readPart_172 : decode cX7_readPart 172 = .ok (.aload_n 0, 1) := by decide +kernel
theorem dX7_readPart_173 : decode cX7_readPart 173 = .ok (.dup, 1) := by decide +kernel
theorem dX7_readPart_174 : decode cX7_readPart 174 = .ok (.getfield 78, 3) := by decide +kernel
theorem dX7_readPart_177 : decode cX7_readPart 177 = .ok (.iconst 1, 1) := by decide +kernel
theorem dX7_readPart_178 : decode cX7_readPart 178 = .ok (.iadd, 1) := by decide +kernel
theorem dX7_readPart_179 : decode cX7_readPart 179 = .ok (.putfield 78, 3) := by decide +kernel
theorem dX7_readPart_182 : decode cX7_readPart 182 = .ok (.goto 11, 3) := by decide +kernel
theorem dX7_readPart_185 : decode cX7_readPart 185 = .ok (.aload_n 0, 1) := by decide +kernel
theorem dX7_readPart_186 : decode cX7_readPart 186 = .ok (.aload_n 0, 1) := by decide +kernel
theorem dX7_readPart_187 : decode cX7_readPart 187 = .ok (.getfield 72, 3) := by decide +kernel
theorem dX7_readPart_190 : decode cX7_readPart 190 = .ok (.putfield 69, 3) := by decide +kernel
theorem dX7_readPart_193 : decode cX7_readPart 193 = .ok (.return_, 1) := by decide +kernel
set_option maxRecDepth 20000 in
theorem ggX7_fault_X7_readText : GoodIn wsX7_fault wsX7_readText := goodIn_r _ [5, 6, 7, 8, 9, 10, 11, 12, 13, 14, 4, 15, 16, 17, 18, 19, 20, 21, 22, 23, 24, 25, 26, 27, 28, 29, 30, 31, 32, 33, 34, 35, 36, 37, 38, 39, 40, 41, 42, 43, 44, 45, 46, 47, 48, 49, 50, 51, 52, 53, 54] (by decide +kernel) (by decide +kernel)
set_option maxRecDepth 20000 in
theorem gX7_fault_X7_readText : GoodIn wsX7_fault (wsV RX7 89 RX7 yX7_readText wsX7_readText) := goodIn_app (goodIn_of _ (by decide +kernel)) ggX7_fault_X7_readText
theorem dX7_fault_0 : decode cX7_fault 0 = .ok (.aload_n 0, 1) := by decide +kernel
theorem dX7_fault_1 : decode cX7_fault 1 = .ok (.invokevirtual 89, 3) := by decide +kernel
theorem dX7_fault_4 : decode cX7_fault 4 = .ok (.ireturn, 1) := by decide +kernel
theorem dX7_smooth_0 : decode cX7_smooth 0 = .ok (.iconst 0, 1) := by decide +kernel
theorem dX7_smooth_1 : decode cX7_smooth 1 = .ok (.istore_n 1, 1) := by decide +kernel
theorem dX7_smooth_2 : decode cX7_smooth 2 = .ok (.iconst 0, 1) := by decide +kernel
theorem dX7_smooth_3 : decode cX7_smooth 3 = .ok (.istore_n 2, 1) := by decide +kernel
theorem dX7_smooth_4 : decode cX7_smooth 4 = .ok (.iload_n 2, 1) := by decide +kernel
theorem dX7_smooth_5 : decode cX7_smooth 5 = .ok (.aload_n 0, 1) := by decide +kernel
theorem dX7_smooth_6 : decode cX7_smooth 6 = .ok (.getfield 93, 3) := by decide +kernel
theorem dX7_smooth_9 : decode cX7_smooth 9 = .ok (.if_icmp .ge 29, 3) := by decide +kernel
theorem dX7_smooth_12 : decode cX7_smooth 12 = .ok (.iload_n 1, 1) := by decide +kernel
theorem dX7_smooth_13 : decode cX7_smooth 13 = .ok (.aload_n 0, 1) := by decide +kernel
theorem dX7_smooth_14 : decode cX7_smooth 14 = .ok (.getfield 13, 3) := by decide +kernel
theorem dX7_smooth_17 : decode cX7_smooth 17 = .ok (.iload_n 2, 1) := by decide +kernel
theorem dX7_smooth_18 : decode cX7_smooth 18 = .ok (.iaload, 1) := by decide +kernel
theorem dX7_smooth_19 : decode cX7_smooth 19 = .ok (.iconst 2, 1) := by decide +kernel
theorem dX7_smooth_20 : decode cX7_smooth 20 = .ok (.if_icmp .ne 9, 3) := by decide +kernel
theorem dX7_smooth_23 : decode cX7_smooth 23 = .ok (.iconst 1, 1) := by decide +kernel
theorem dX7_smooth_24 : decode cX7_smooth 24 = .ok (.iload_n 2, 1) := by decide +kernel
theorem dX7_smooth_25 : decode cX7_smooth 25 = .ok (.ishl, 1) := by decide +kernel
theorem dX7_smooth_26 : decode cX7_smooth 26 = .ok (.goto 4, 3) := by decide +kernel
theorem dX7_smooth_29 : decode cX7_smooth 29 = .ok (.iconst 0, 1) := by decide +kernel
theorem dX7_smooth_30 : decode cX7_smooth 30 = .ok (.ior, 1) := by decide +kernel
theorem dX7_smooth_31 : decode cX7_smooth 31 = .ok (.istore_n 1, 1) := by decide +kernel
theorem dX7_smooth_32 : decode cX7_smooth 32 = .ok (.iinc 2 1, 3) := by decide +kernel
theorem dX7_smooth_35 : decode cX7_smooth 35 = .ok (.goto (-31), 3) := by decide +kernel
theorem dX7_smooth_38 : decode cX7_smooth 38 = .ok (.iload_n 1, 1) := by decide +kernel
theorem dX7_smooth_39 : decode cX7_smooth 39 = .ok (.ireturn, 1) := by decide +kernel
set_option maxRecDepth 20000 in
theorem ggX7_road_X7_readText : GoodIn wsX7_road wsX7_readText := goodIn_r _ [18, 19, 20, 1, 3, 21, 22, 23, 24, 25, 17, 26, 7, 9, 27, 28, 29, 30, 31, 32, 33, 38, 39, 40, 41, 42, 43, 44, 45, 46, 47, 48, 49, 50, 51, 52, 53, 54, 55, 56, 57, 58, 59, 60, 61, 62, 63, 64, 65, 66, 67] (by decide +kernel) (by decide +kernel)
set_option maxRecDepth 20000 in
theorem gX7_road_X7_readText : GoodIn wsX7_road (wsV RX7 89 RX7 yX7_readText wsX7_readText) := goodIn_app (goodIn_of _ (by decide +kernel)) ggX7_road_X7_readText
set_option maxRecDepth 20000 in
theorem ggX7_road_X7_smooth : GoodIn wsX7_road wsX7_smooth := goodIn_r _ [37, 2, 8, 38, 39, 40, 41, 42, 43, 44, 45, 46, 47, 48, 49, 50, 51, 52, 53, 54, 55, 56, 57, 58, 59, 60, 61, 62, 63, 64, 65, 66, 67] (by decide +kernel) (by decide +kernel)
set_option maxRecDepth 20000 in
theorem gX7_road_X7_smooth : GoodIn wsX7_road (wsV RX7 99 RX7 yX7_smooth wsX7_smooth) := goodIn_app (goodIn_of _ (by decide +kernel)) ggX7_road_X7_smooth
theorem dX7_road_0 : decode cX7_road 0 = .ok (.aload_n 0, 1) := by decide +kernel
theorem dX7_road_1 : decode cX7_road 1 = .ok (.invokevirtual 89, 3) := by decide +kernel
theorem dX7_road_4 : decode cX7_road 4 = .ok (.bipush (-9), 2) := by decide +kernel
theorem dX7_road_6 : decode cX7_road 6 = .ok (.if_icmp .eq 6, 3) := by decide +kernel
theorem dX7_road_9 : decode cX7_road 9 = .ok (.bipush (-3), 2) := by decide +kernel
theorem dX7_road_11 : decode cX7_road 11 = .ok (.ireturn, 1) := by decide +kernel
theorem dX7_road_12 : decode cX7_road 12 = .ok (.aload_n 0, 1) := by decide +kernel
theorem dX7_road_13 : decode cX7_road 13 = .ok (.aload_n 0, 1) := by decide +kernel
theorem dX7_road_14 : decode cX7_road 14 = .ok (.getfield 75, 3) := by decide +kernel
theorem dX7_road_17 : decode cX7_road 17 = .ok (.putfield 93, 3) := by decide +kernel
theorem dX7_road_20 : decode cX7_road 20 = .ok (.aload_n 0, 1) := by decide +kernel
theorem dX7_road_21 : decode cX7_road 21 = .ok (.aload_n 0, 1) := by decide +kernel
theorem dX7_road_22 : decode cX7_road 22 = .ok (.getfield 78, 3) := by decide +kernel
theorem dX7_road_25 : decode cX7_road 25 = .ok (.putfield 96, 3) := by decide +kernel
theorem dX7_road_28 : decode cX7_road 28 = .ok (.iconst 0, 1) := by decide +kernel
theorem dX7_road_29 : decode cX7_road 29 = .ok (.istore_n 1, 1) := by decide +kernel
theorem dX7_road_30 : decode cX7_road 30 = .ok (.iload_n 1, 1) := by decide +kernel
theorem dX7_road_31 : decode cX7_road 31 = .ok (.bipush 14, 2) := by decide +kernel
theorem dX7_road_33 : decode cX7_road 33 = .ok (.if_icmp .ge 16, 3) := by decide +kernel
theorem dX7_road_36 : decode cX7_road 36 = .ok (.aload_n 0, 1) := by decide +kernel
theorem dX7_road_37 : decode cX7_road 37 = .ok (.getfield 22, 3) := by decide +kernel
theorem dX7_road_40 : decode cX7_road 40 = .ok (.iload_n 1, 1) := by decide +kernel
theorem dX7_road_41 : decode cX7_road 41 = .ok (.iconst 0, 1) := by decide +kernel
theorem dX7_road_42 : decode cX7_road 42 = .ok (.iastore, 1) := by decide +kernel
theorem dX7_road_43 : decode cX7_road 43 = .ok (.iinc 1 1, 3) := by decide +kernel
theorem dX7_road_46 : decode cX7_road 46 = .ok (.goto (-16), 3) := by decide +kernel
theorem dX7_road_49 : decode cX7_road 49 = .ok (.iconst 0, 1) := by decide +kernel
theorem dX7_road_50 : decode cX7_road 50 = .ok (.istore_n 1, 1) := by decide +kernel
theorem dX7_road_51 : decode cX7_road 51 = .ok (.iload_n 1, 1) := by decide +kernel
theorem dX7_road_52 : decode cX7_road 52 = .ok (.aload_n 0, 1) := by decide +kernel
theorem dX7_road_53 : decode cX7_road 53 = .ok (.getfield 93, 3) := by decide +kernel
theorem dX7_road_56 : decode cX7_road 56 = .ok (.if_icmp .ge 39, 3) := by decide +kernel
theorem dX7_road_59 : decode cX7_road 59 = .ok (.aload_n 0, 1) := by decide +kernel
theorem dX7_road_60 : decode cX7_road 60 = .ok (.getfield 7, 3) := by decide +kernel
theorem dX7_road_63 : decode cX7_road 63 = .ok (.iload_n 1, 1) := by decide +kernel
theorem dX7_road_64 : decode cX7_road 64 = .ok (.aload_n 0, 1) := by decide +kernel
theorem dX7_road_65 : decode cX7_road 65 = .ok (.getfield 25, 3) := by decide +kernel
theorem dX7_road_68 : decode cX7_road 68 = .ok (.iconst 2, 1) := by decide +kernel
theorem dX7_road_69 : decode cX7_road 69 = .ok (.iload_n 1, 1) := by decide +kernel
theorem dX7_road_70 : decode cX7_road 70 = .ok (.imul, 1) := by decide +kernel
theorem dX7_road_71 : decode cX7_road 71 = .ok (.iaload, 1) := by decide +kernel
theorem dX7_road_72 : decode cX7_road 72 = .ok (.iastore, 1) := by decide +kernel
theorem dX7_road_73 : decode cX7_road 73 = .ok (.aload_n 0, 1) := by decide +kernel
theorem dX7_road_74 : decode cX7_road 74 = .ok (.getfield 13, 3) := by decide +kernel
theorem dX7_road_77 : decode cX7_road 77 = .ok (.iload_n 1, 1) := by decide +kernel
theorem dX7_road_78 : decode cX7_road 78 = .ok (.aload_n 0, 1) := by decide +kernel
theorem dX7_road_79 : decode cX7_road 79 = .ok (.getfield 25, 3) := by decide +kernel
theorem dX7_road_82 : decode cX7_road 82 = .ok (.iconst 2, 1) := by decide +kernel
theorem dX7_road_83 : decode cX7_road 83 = .ok (.iload_n 1, 1) := by decide +kernel
theorem dX7_road_84 : decode cX7_road 84 = .ok (.imul, 1) := by decide +kernel
theorem dX7_road_85 : decode cX7_road 85 = .ok (.iconst 1, 1) := by decide +kernel
theorem dX7_road_86 : decode cX7_road 86 = .ok (.iadd, 1) := by decide +kernel
theorem dX7_road_87 : decode cX7_road 87 = .ok (.iaload, 1) := by decide +kernel
theorem dX7_road_88 : decode cX7_road 88 = .ok (.iastore, 1) := by decide +kernel
theorem dX7_road_89 : decode cX7_road 89 = .ok (.iinc 1 1, 3) := by decide +kernel
theorem dX7_road_92 : decode cX7_road 92 = .ok (.goto (-41), 3) := by decide +kernel
theorem dX7_road_95 : decode cX7_road 95 = .ok (.iconst 0, 1) := by decide +kernel
theorem dX7_road_96 : decode cX7_road 96 = .ok (.istore_n 1, 1) := by decide +kernel
theorem dX7_road_97 : decode cX7_road 97 = .ok (.iload_n 1, 1) := by decide +kernel
theorem dX7_road_98 : decode cX7_road 98 = .ok (.aload_n 0, 1) := by decide +kernel
theorem dX7_road_99 : decode cX7_road 99 = .ok (.getfield 96, 3) := by decide +kernel
theorem dX7_road_102 : decode cX7_road 102 = .ok (.if_icmp .ge 69, 3) := by decide +kernel
theorem dX7_road_105 : decode cX7_road 105 = .ok (.aload_n 0, 1) := by decide +kernel
theorem dX7_road_106 : decode cX7_road 106 = .ok (.getfield 22, 3) := by decide +kernel
theorem dX7_road_109 : decode cX7_road 109 = .ok (.iload_n 1, 1) := by decide +kernel
theorem dX7_road_110 : decode cX7_road 110 = .ok (.aload_n 0, 1) := by decide +kernel
theorem dX7_road_111 : decode cX7_road 111 = .ok (.getfield 28, 3) := by decide +kernel
theorem dX7_road_114 : decode cX7_road 114 = .ok (.iconst 3, 1) := by decide +kernel
theorem dX7_road_115 : decode cX7_road 115 = .ok (.iload_n 1, 1) := by decide +kernel
theorem dX7_road_116 : decode cX7_road 116 = .ok (.imul, 1) := by decide +kernel
theorem dX7_road_117 : decode cX7_road 117 = .ok (.iaload, 1) := by decide +kernel
theorem dX7_road_118 : decode cX7_road 118 = .ok (.iastore, 1) := by decide +kernel
theorem dX7_road_119 : decode cX7_road 119 = .ok (.aload_n 0, 1) := by decide +kernel
theorem dX7_road_120 : decode cX7_road 120 = .ok (.getfield 16, 3) := by decide +kernel
theorem dX7_road_123 : decode cX7_road 123 = .ok (.iload_n 1, 1) := by decide +kernel
theorem dX7_road_124 : decode cX7_road 124 = .ok (.aload_n 0, 1) := by decide +kernel
theorem dX7_road_125 : decode cX7_road 125 = .ok (.getfield 28, 3) := by decide +kernel
theorem dX7_road_128 : decode cX7_road 128 = .ok (.iconst 3, 1) := by decide +kernel
theorem dX7_road_129 : decode cX7_road 129 = .ok (.iload_n 1, 1) := by decide +kernel
theorem dX7_road_130 : decode cX7_road 130 = .ok (.imul, 1) := by decide +kernel
theorem dX7_road_131 : decode cX7_road 131 = .ok (.iconst 1, 1) := by decide +kernel
theorem dX7_road_132 : decode cX7_road 132 = .ok (.iadd, 1) := by decide +kernel
theorem dX7_road_133 : decode cX7_road 133 = .ok (.iaload, 1) := by decide +kernel
theorem dX7_road_134 : decode cX7_road 134 = .ok (.iastore, 1) := by decide +kernel
theorem dX7_road_135 : decode cX7_road 135 = .ok (.aload_n 0, 1) := by decide +kernel
theorem dX7_road_136 : decode cX7_road 136 = .ok (.getfield 19, 3) := by decide +kernel
theorem dX7_road_139 : decode cX7_road 139 = .ok (.iload_n 1, 1) := by decide +kernel
theorem dX7_road_140 : decode cX7_road 140 = .ok (.aload_n 0, 1) := by decide +kernel
theorem dX7_road_141 : decode cX7_road 141 = .ok (.getfield 28, 3) := by decide +kernel
theorem dX7_road_144 : decode cX7_road 144 = .ok (.iconst 3, 1) := by decide +kernel
theorem dX7_road_145 : decode cX7_road 145 = .ok (.iload_n 1, 1) := by decide +kernel
theorem dX7_road_146 : decode cX7_road 146 = .ok (.imul, 1) := by decide +kernel
theorem dX7_road_147 : decode cX7_road 147 = .ok (.iconst 2, 1) := by decide +kernel
theorem dX7_road_148 : decode cX7_road 148 = .ok (.iadd, 1) := by decide +kernel
theorem dX7_road_149 : decode cX7_road 149 = .ok (.iaload, 1) := by decide +kernel
theorem dX7_road_150 : decode cX7_road 150 = .ok (.iastore, 1) := by decide +kernel
theorem dX7_road_151 : decode cX7_road 151 = .ok (.aload_n 0, 1) := by decide +kernel
theorem dX7_road_152 : decode cX7_road 152 = .ok (.getfield 22, 3) := by decide +kernel
theorem dX7_road_155 : decode cX7_road 155 = .ok (.iconst 5, 1) := by decide +kernel
theorem dX7_road_156 : decode cX7_road 156 = .ok (.iload_n 1, 1) := by decide +kernel
theorem dX7_road_157 : decode cX7_road 157 = .ok (.iadd, 1) := by decide +kernel
theorem dX7_road_158 : decode cX7_road 158 = .ok (.aload_n 0, 1) := by decide +kernel
theorem dX7_road_159 : decode cX7_road 159 = .ok (.getfield 16, 3) := by decide +kernel
theorem dX7_road_162 : decode cX7_road 162 = .ok (.iload_n 1, 1) := by decide +kernel
theorem dX7_road_163 : decode cX7_road 163 = .ok (.iaload, 1) := by decide +kernel
theorem dX7_road_164 : decode cX7_road 164 = .ok (.iastore, 1) := by decide +kernel
theorem dX7_road_165 : decode cX7_road 165 = .ok (.iinc 1 1, 3) := by decide +kernel
theorem dX7_road_168 : decode cX7_road 168 = .ok (.goto (-71), 3) := by decide +kernel
theorem dX7_road_171 : decode cX7_road 171 = .ok (.aload_n 0, 1) := by decide +kernel
theorem dX7_road_172 : decode cX7_road 172 = .ok (.getfield 22, 3) := by decide +kernel
theorem dX7_road_175 : decode cX7_road 175 = .ok (.bipush 10, 2) := by decide +kernel
theorem dX7_road_177 : decode cX7_road 177 = .ok (.aload_n 0, 1) := by decide +kernel
theorem dX7_road_178 : decode cX7_road 178 = .ok (.invokevirtual 99, 3) := by decide +kernel
theorem dX7_road_181 : decode cX7_road 181 = .ok (.iastore, 1) := by decide +kernel
theorem dX7_road_182 : decode cX7_road 182 = .ok (.aload_n 0, 1) := by decide +kernel
theorem dX7_road_183 : decode cX7_road 183 = .ok (.iconst 0, 1) := by decide +kernel
theorem dX7_road_184 : decode cX7_road 184 = .ok (.putfield 102, 3) := by decide +kernel
theorem dX7_road_187 : decode cX7_road 187 = .ok (.aload_n 0, 1) := by decide +kernel
theorem dX7_road_188 : decode cX7_road 188 = .ok (.getfield 52, 3) := by decide +kernel
theorem dX7_road_191 : decode cX7_road 191 = .ok (.iconst 0, 1) := by decide +kernel
theorem dX7_road_192 : decode cX7_road 192 = .ok (.iconst 0, 1) := by decide +kernel
theorem dX7_road_193 : decode cX7_road 193 = .ok (.bastore, 1) := by decide +kernel
theorem dX7_road_194 : decode cX7_road 194 = .ok (.aload_n 0, 1) := by decide +kernel
theorem dX7_road_195 : decode cX7_road 195 = .ok (.getfield 52, 3) := by decide +kernel
theorem dX7_road_198 : decode cX7_road 198 = .ok (.iconst 1, 1) := by decide +kernel
theorem dX7_road_199 : decode cX7_road 199 = .ok (.iconst 0, 1) := by decide +kernel
theorem dX7_road_200 : decode cX7_road 200 = .ok (.bastore, 1) := by decide +kernel
theorem dX7_road_201 : decode cX7_road 201 = .ok (.bipush 10, 2) := by decide +kernel
theorem dX7_road_203 : decode cX7_road 203 = .ok (.aload_n 0, 1) := by decide +kernel
theorem dX7_road_204 : decode cX7_road 204 = .ok (.getfield 93, 3) := by decide +kernel
theorem dX7_road_207 : decode cX7_road 207 = .ok (.imul, 1) := by decide +kernel
theorem dX7_road_208 : decode cX7_road 208 = .ok (.aload_n 0, 1) := by decide +kernel
theorem dX7_road_209 : decode cX7_road 209 = .ok (.getfield 96, 3) := by decide +kernel
theorem dX7_road_212 : decode cX7_road 212 = .ok (.iadd, 1) := by decide +kernel
theorem dX7_road_213 : decode cX7_road 213 = .ok (.ireturn, 1) := by decide +kernel
set_option maxRecDepth 20000 in
theorem ggX7_isPleat_X7_in : GoodIn wsX7_isPleat wsX7_in := goodIn_r _ [5] (by decide +kernel) (by decide +kernel)
set_option maxRecDepth 20000 in
theorem gX7_isPleat_X7_in : GoodIn wsX7_isPleat (va_wsS RX7 61 yX7_in wsX7_in) := goodIn_app (goodIn_of _ (by decide +kernel)) ggX7_isPleat_X7_in
theorem dX7_isPleat_0 : decode cX7_isPleat 0 = .ok (.iload_n 1, 1) := by decide +kernel
theorem dX7_isPleat_1 : decode cX7_isPleat 1 = .ok (.i2l, 1) := by decide +kernel
theorem dX7_isPleat_2 : decode cX7_isPleat 2 = .ok (.lconst 0, 1) := by decide +kernel
theorem dX7_isPleat_3 : decode cX7_isPleat 3 = .ok (.aload_n 0, 1) := by decide +kernel
theorem dX7_isPleat_4 : decode cX7_isPleat 4 = .ok (.getfield 93, 3) := by decide +kernel
theorem dX7_isPleat_7 : decode cX7_isPleat 7 = .ok (.iconst 1, 1) := by decide +kernel
theorem dX7_isPleat_8 : decode cX7_isPleat 8 = .ok (.isub, 1) := by decide +kernel
theorem dX7_isPleat_9 : decode cX7_isPleat 9 = .ok (.i2l, 1) := by decide +kernel
theorem dX7_isPleat_10 : decode cX7_isPleat 10 = .ok (.invokestatic 61, 3) := by decide +kernel
theorem dX7_isPleat_13 : decode cX7_isPleat 13 = .ok (.ireturn, 1) := by decide +kernel
set_option maxRecDepth 20000 in
theorem ggX7_isTraveller_X7_in : GoodIn wsX7_isTraveller wsX7_in := goodIn_r _ [5] (by decide +kernel) (by decide +kernel)
set_option maxRecDepth 20000 in
theorem gX7_isTraveller_X7_in : GoodIn wsX7_isTraveller (va_wsS RX7 61 yX7_in wsX7_in) := goodIn_app (goodIn_of _ (by decide +kernel)) ggX7_isTraveller_X7_in
theorem dX7_isTraveller_0 : decode cX7_isTraveller 0 = .ok (.iload_n 1, 1) := by decide +kernel
theorem dX7_isTraveller_1 : decode cX7_isTraveller 1 = .ok (.i2l, 1) := by decide +kernel
theorem dX7_isTraveller_2 : decode cX7_isTraveller 2 = .ok (.lconst 0, 1) := by decide +kernel
theorem dX7_isTraveller_3 : decode cX7_isTraveller 3 = .ok (.aload_n 0, 1) := by decide +kernel
theorem dX7_isTraveller_4 : decode cX7_isTraveller 4 = .ok (.getfield 96, 3) := by decide +kernel
theorem dX7_isTraveller_7 : decode cX7_isTraveller 7 = .ok (.iconst 1, 1) := by decide +kernel
theorem dX7_isTraveller_8 : decode cX7_isTraveller 8 = .ok (.isub, 1) := by decide +kernel
theorem dX7_isTraveller_9 : decode cX7_isTraveller 9 = .ok (.i2l, 1) := by decide +kernel
theorem dX7_isTraveller_10 : decode cX7_isTraveller 10 = .ok (.invokestatic 61, 3) := by decide +kernel
theorem dX7_isTraveller_13 : decode cX7_isTraveller 13 = .ok (.ireturn, 1) := by decide +kernel
set_option maxRecDepth 20000 in
theorem ggX7_isPlace_X7_in : GoodIn wsX7_isPlace wsX7_in := goodIn_r _ [5] (by decide +kernel) (by decide +kernel)
set_option maxRecDepth 20000 in
theorem gX7_isPlace_X7_in : GoodIn wsX7_isPlace (va_wsS RX7 61 yX7_in wsX7_in) := goodIn_app (goodIn_of _ (by decide +kernel)) ggX7_isPlace_X7_in
theorem dX7_isPlace_0 : decode cX7_isPlace 0 = .ok (.iload_n 1, 1) := by decide +kernel
theorem dX7_isPlace_1 : decode cX7_isPlace 1 = .ok (.i2l, 1) := by decide +kernel
theorem dX7_isPlace_2 : decode cX7_isPlace 2 = .ok (.lconst 0, 1) := by decide +kernel
theorem dX7_isPlace_3 : decode cX7_isPlace 3 = .ok (.aload_n 0, 1) := by decide +kernel
theorem dX7_isPlace_4 : decode cX7_isPlace 4 = .ok (.getfield 93, 3) := by decide +kernel
theorem dX7_isPlace_7 : decode cX7_isPlace 7 = .ok (.i2l, 1) := by decide +kernel
theorem dX7_isPlace_8 : decode cX7_isPlace 8 = .ok (.invokestatic 61, 3) := by decide +kernel
theorem dX7_isPlace_11 : decode cX7_isPlace 11 = .ok (.ireturn, 1) := by decide +kernel
set_option maxRecDepth 20000 in
theorem ggX7_costs_X7_has : GoodIn wsX7_costs wsX7_has := goodIn_r _ [7] (by decide +kernel) (by decide +kernel)
set_option maxRecDepth 20000 in
theorem gX7_costs_X7_has : GoodIn wsX7_costs (va_wsS RX7 108 yX7_has wsX7_has) := goodIn_app (goodIn_of _ (by decide +kernel)) ggX7_costs_X7_has
set_option maxRecDepth 20000 in
theorem ggX7_costs_X7_atLeast : GoodIn wsX7_costs wsX7_atLeast := goodIn_r _ [10] (by decide +kernel) (by decide +kernel)
set_option maxRecDepth 20000 in
theorem gX7_costs_X7_atLeast : GoodIn wsX7_costs (va_wsS RX7 112 yX7_atLeast wsX7_atLeast) := goodIn_app (goodIn_of _ (by decide +kernel)) ggX7_costs_X7_atLeast
theorem dX7_costs_0 : decode cX7_costs 0 = .ok (.aload_n 0, 1) := by decide +kernel
theorem dX7_costs_1 : decode cX7_costs 1 = .ok (.getfield 105, 3) := by decide +kernel
theorem dX7_costs_4 : decode cX7_costs 4 = .ok (.iload_n 1, 1) := by decide +kernel
theorem dX7_costs_5 : decode cX7_costs 5 = .ok (.invokestatic 108, 3) := by decide +kernel
theorem dX7_costs_8 : decode cX7_costs 8 = .ok (.ifCond .eq 7, 3) := by decide +kernel
theorem dX7_costs_11 : decode cX7_costs 11 = .ok (.iconst 1, 1) := by decide +kernel
theorem dX7_costs_12 : decode cX7_costs 12 = .ok (.goto 4, 3) := by decide +kernel
theorem dX7_costs_15 : decode cX7_costs 15 = .ok (.iconst 0, 1) := by decide +kernel
theorem dX7_costs_16 : decode cX7_costs 16 = .ok (.istore 5, 2) := by decide +kernel
theorem dX7_costs_18 : decode cX7_costs 18 = .ok (.iload_n 2, 1) := by decide +kernel
theorem dX7_costs_19 : decode cX7_costs 19 = .ok (.iload_n 1, 1) := by decide +kernel
theorem dX7_costs_20 : decode cX7_costs 20 = .ok (.iconst 1, 1) := by decide +kernel
theorem dX7_costs_21 : decode cX7_costs 21 = .ok (.iadd, 1) := by decide +kernel
theorem dX7_costs_22 : decode cX7_costs 22 = .ok (.if_icmp .ne 6, 3) := by decide +kernel
theorem dX7_costs_25 : decode cX7_costs 25 = .ok (.iload 5, 2) := by decide +kernel
theorem dX7_costs_27 : decode cX7_costs 27 = .ok (.ireturn, 1) := by decide +kernel
theorem dX7_costs_28 : decode cX7_costs 28 = .ok (.aload_n 0, 1) := by decide +kernel
theorem dX7_costs_29 : decode cX7_costs 29 = .ok (.getfield 13, 3) := by decide +kernel
theorem dX7_costs_32 : decode cX7_costs 32 = .ok (.iload_n 1, 1) := by decide +kernel
theorem dX7_costs_33 : decode cX7_costs 33 = .ok (.iaload, 1) := by decide +kernel
theorem dX7_costs_34 : decode cX7_costs 34 = .ok (.iconst 3, 1) := by decide +kernel
theorem dX7_costs_35 : decode cX7_costs 35 = .ok (.if_icmp .ne 8, 3) := by decide +kernel
theorem dX7_costs_38 : decode cX7_costs 38 = .ok (.iconst 1, 1) := by decide +kernel
theorem dX7_costs_39 : decode cX7_costs 39 = .ok (.iload 5, 2) := by decide +kernel
theorem dX7_costs_41 : decode cX7_costs 41 = .ok (.iadd, 1) := by decide +kernel
theorem dX7_costs_42 : decode cX7_costs 42 = .ok (.ireturn, 1) := by decide +kernel
theorem dX7_costs_43 : decode cX7_costs 43 = .ok (.aload_n 0, 1) := by decide +kernel
theorem dX7_costs_44 : decode cX7_costs 44 = .ok (.getfield 7, 3) := by decide +kernel
theorem dX7_costs_47 : decode cX7_costs 47 = .ok (.iload_n 1, 1) := by decide +kernel
theorem dX7_costs_48 : decode cX7_costs 48 = .ok (.iaload, 1) := by decide +kernel
theorem dX7_costs_49 : decode cX7_costs 49 = .ok (.iload 4, 2) := by decide +kernel
theorem dX7_costs_51 : decode cX7_costs 51 = .ok (.iadd, 1) := by decide +kernel
theorem dX7_costs_52 : decode cX7_costs 52 = .ok (.istore 6, 2) := by decide +kernel
theorem dX7_costs_54 : decode cX7_costs 54 = .ok (.aload_n 0, 1) := by decide +kernel
theorem dX7_costs_55 : decode cX7_costs 55 = .ok (.getfield 13, 3) := by decide +kernel
theorem dX7_costs_58 : decode cX7_costs 58 = .ok (.iload_n 1, 1) := by decide +kernel
theorem dX7_costs_59 : decode cX7_costs 59 = .ok (.iaload, 1) := by decide +kernel
theorem dX7_costs_60 : decode cX7_costs 60 = .ok (.iconst 1, 1) := by decide +kernel
theorem dX7_costs_61 : decode cX7_costs 61 = .ok (.if_icmp .ne 14, 3) := by decide +kernel
theorem dX7_costs_64 : decode cX7_costs 64 = .ok (.iload 6, 2) := by decide +kernel
theorem dX7_costs_66 : decode cX7_costs 66 = .ok (.iconst 2, 1) := by decide +kernel
theorem dX7_costs_67 : decode cX7_costs 67 = .ok (.idiv, 1) := by decide +kernel
theorem dX7_costs_68 : decode cX7_costs 68 = .ok (.iconst 1, 1) := by decide +kernel
theorem dX7_costs_69 : decode cX7_costs 69 = .ok (.invokestatic 112, 3) := by decide +kernel
theorem dX7_costs_72 : decode cX7_costs 72 = .ok (.goto 5, 3) := by decide +kernel
theorem dX7_costs_75 : decode cX7_costs 75 = .ok (.iload 6, 2) := by decide +kernel
theorem dX7_costs_77 : decode cX7_costs 77 = .ok (.istore 6, 2) := by decide +kernel
theorem dX7_costs_79 : decode cX7_costs 79 = .ok (.iload_n 3, 1) := by decide +kernel
theorem dX7_costs_80 : decode cX7_costs 80 = .ok (.iload_n 1, 1) := by decide +kernel
theorem dX7_costs_81 : decode cX7_costs 81 = .ok (.invokestatic 108, 3) := by decide +kernel
theorem dX7_costs_84 : decode cX7_costs 84 = .ok (.ifCond .eq 14, 3) := by decide +kernel
theorem dX7_costs_87 : decode cX7_costs 87 = .ok (.iload 6, 2) := by decide +kernel
theorem dX7_costs_89 : decode cX7_costs 89 = .ok (.iconst 2, 1) := by decide +kernel
theorem dX7_costs_90 : decode cX7_costs 90 = .ok (.isub, 1) := by decide +kernel
theorem dX7_costs_91 : decode cX7_costs 91 = .ok (.iconst 1, 1) := by decide +kernel
theorem dX7_costs_92 : decode cX7_costs 92 = .ok (.invokestatic 112, 3) := by decide +kernel
theorem dX7_costs_95 : decode cX7_costs 95 = .ok (.goto 5, 3) := by decide +kernel
theorem dX7_costs_98 : decode cX7_costs 98 = .ok (.iload 6, 2) := by decide +kernel
theorem dX7_costs_100 : decode cX7_costs 100 = .ok (.iload 5, 2) := by decide +kernel
theorem dX7_costs_102 : decode cX7_costs 102 = .ok (.iadd, 1) := by decide +kernel
theorem dX7_costs_103 : decode cX7_costs 103 = .ok (.ireturn, 1) := by decide +kernel
theorem dX7_pays_0 : decode cX7_pays 0 = .ok (.iload_n 0, 1) := by decide +kernel
theorem dX7_pays_1 : decode cX7_pays 1 = .ok (.iconst 1, 1) := by decide +kernel
theorem dX7_pays_2 : decode cX7_pays 2 = .ok (.if_icmp .ne 9, 3) := by decide +kernel
theorem dX7_pays_5 : decode cX7_pays 5 = .ok (.iload_n 1, 1) := by decide +kernel
theorem dX7_pays_6 : decode cX7_pays 6 = .ok (.iconst 2, 1) := by decide +kernel
theorem dX7_pays_7 : decode cX7_pays 7 = .ok (.idiv, 1) := by decide +kernel
theorem dX7_pays_8 : decode cX7_pays 8 = .ok (.goto 15, 3) := by decide +kernel
theorem dX7_pays_11 : decode cX7_pays 11 = .ok (.iload_n 0, 1) := by decide +kernel
theorem dX7_pays_12 : decode cX7_pays 12 = .ok (.iconst 2, 1) := by decide +kernel
theorem dX7_pays_13 : decode cX7_pays 13 = .ok (.if_icmp .ne 9, 3) := by decide +kernel
theorem dX7_pays_16 : decode cX7_pays 16 = .ok (.iload_n 1, 1) := by decide +kernel
theorem dX7_pays_17 : decode cX7_pays 17 = .ok (.iconst 1, 1) := by decide +kernel
theorem dX7_pays_18 : decode cX7_pays 18 = .ok (.iadd, 1) := by decide +kernel
theorem dX7_pays_19 : decode cX7_pays 19 = .ok (.goto 4, 3) := by decide +kernel
theorem dX7_pays_22 : decode cX7_pays 22 = .ok (.iload_n 1, 1) := by decide +kernel
theorem dX7_pays_23 : decode cX7_pays 23 = .ok (.ireturn, 1) := by decide +kernel
set_option maxRecDepth 20000 in
theorem ggX7_paysOn_X7_costs : GoodIn wsX7_paysOn wsX7_costs := goodIn_r _ [7, 8, 9, 10, 11, 12, 6, 13, 14, 15, 16, 20, 21, 22, 23, 24, 25, 26, 27, 28, 29, 30, 31, 32, 33, 34, 35, 36, 37, 38, 39, 40, 41, 42, 43, 44, 45, 46, 47, 48, 49] (by decide +kernel) (by decide +kernel)
set_option maxRecDepth 20000 in
theorem gX7_paysOn_X7_costs : GoodIn wsX7_paysOn (wsV RX7 115 RX7 yX7_costs wsX7_costs) := goodIn_app (goodIn_of _ (by decide +kernel)) ggX7_paysOn_X7_costs
set_option maxRecDepth 20000 in
theorem ggX7_paysOn_X7_pays : GoodIn wsX7_paysOn wsX7_pays := goodIn_r _ [19] (by decide +kernel) (by decide +kernel)
set_option maxRecDepth 20000 in
theorem gX7_paysOn_X7_pays : GoodIn wsX7_paysOn (va_wsS RX7 119 yX7_pays wsX7_pays) := goodIn_app (goodIn_of _ (by decide +kernel)) ggX7_paysOn_X7_pays
theorem dX7_paysOn_0 : decode cX7_paysOn 0 = .ok (.bipush 14, 2) := by decide +kernel
theorem dX7_paysOn_2 : decode cX7_paysOn 2 = .ok (.iload_n 1, 1) := by decide +kernel
theorem dX7_paysOn_3 : decode cX7_paysOn 3 = .ok (.imul, 1) := by decide +kernel
theorem dX7_paysOn_4 : decode cX7_paysOn 4 = .ok (.istore 4, 2) := by decide +kernel
theorem dX7_paysOn_6 : decode cX7_paysOn 6 = .ok (.aload_n 0, 1) := by decide +kernel
theorem dX7_paysOn_7 : decode cX7_paysOn 7 = .ok (.getfield 19, 3) := by decide +kernel
theorem dX7_paysOn_10 : decode cX7_paysOn 10 = .ok (.iload_n 2, 1) := by decide +kernel
theorem dX7_paysOn_11 : decode cX7_paysOn 11 = .ok (.iaload, 1) := by decide +kernel
theorem dX7_paysOn_12 : decode cX7_paysOn 12 = .ok (.aload_n 0, 1) := by decide +kernel
theorem dX7_paysOn_13 : decode cX7_paysOn 13 = .ok (.iload_n 3, 1) := by decide +kernel
theorem dX7_paysOn_14 : decode cX7_paysOn 14 = .ok (.aload_n 0, 1) := by decide +kernel
theorem dX7_paysOn_15 : decode cX7_paysOn 15 = .ok (.getfield 22, 3) := by decide +kernel
theorem dX7_paysOn_18 : decode cX7_paysOn 18 = .ok (.iload 4, 2) := by decide +kernel
theorem dX7_paysOn_20 : decode cX7_paysOn 20 = .ok (.bipush 11, 2) := by decide +kernel
theorem dX7_paysOn_22 : decode cX7_paysOn 22 = .ok (.iadd, 1) := by decide +kernel
theorem dX7_paysOn_23 : decode cX7_paysOn 23 = .ok (.iaload, 1) := by decide +kernel
theorem dX7_paysOn_24 : decode cX7_paysOn 24 = .ok (.aload_n 0, 1) := by decide +kernel
theorem dX7_paysOn_25 : decode cX7_paysOn 25 = .ok (.getfield 22, 3) := by decide +kernel
theorem dX7_paysOn_28 : decode cX7_paysOn 28 = .ok (.iload 4, 2) := by decide +kernel
theorem dX7_paysOn_30 : decode cX7_paysOn 30 = .ok (.bipush 10, 2) := by decide +kernel
theorem dX7_paysOn_32 : decode cX7_paysOn 32 = .ok (.iadd, 1) := by decide +kernel
theorem dX7_paysOn_33 : decode cX7_paysOn 33 = .ok (.iaload, 1) := by decide +kernel
theorem dX7_paysOn_34 : decode cX7_paysOn 34 = .ok (.aload_n 0, 1) := by decide +kernel
theorem dX7_paysOn_35 : decode cX7_paysOn 35 = .ok (.getfield 22, 3) := by decide +kernel
theorem dX7_paysOn_38 : decode cX7_paysOn 38 = .ok (.iload 4, 2) := by decide +kernel
theorem dX7_paysOn_40 : decode cX7_paysOn 40 = .ok (.bipush 12, 2) := by decide +kernel
theorem dX7_paysOn_42 : decode cX7_paysOn 42 = .ok (.iadd, 1) := by decide +kernel
theorem dX7_paysOn_43 : decode cX7_paysOn 43 = .ok (.iaload, 1) := by decide +kernel
theorem dX7_paysOn_44 : decode cX7_paysOn 44 = .ok (.invokevirtual 115, 3) := by decide +kernel
theorem dX7_paysOn_47 : decode cX7_paysOn 47 = .ok (.invokestatic 119, 3) := by decide +kernel
theorem dX7_paysOn_50 : decode cX7_paysOn 50 = .ok (.ireturn, 1) := by decide +kernel
set_option maxRecDepth 20000 in
theorem ggX7_pleatOf_X7_isPleat : GoodIn wsX7_pleatOf wsX7_isPleat := goodIn_r _ [5, 6, 7, 8, 4, 9, 10, 11, 12, 13, 14, 15, 16, 17, 18, 19, 20, 21, 22, 23, 24, 25, 26, 27, 28, 29, 30, 31, 32, 33, 34, 35, 36, 37, 38, 39] (by decide +kernel) (by decide +kernel)
set_option maxRecDepth 20000 in
theorem gX7_pleatOf_X7_isPleat : GoodIn wsX7_pleatOf (wsV RX7 122 RX7 yX7_isPleat wsX7_isPleat) := goodIn_app (goodIn_of _ (by decide +kernel)) ggX7_pleatOf_X7_isPleat
theorem dX7_pleatOf_0 : decode cX7_pleatOf 0 = .ok (.iload_n 2, 1) := by decide +kernel
theorem dX7_pleatOf_1 : decode cX7_pleatOf 1 = .ok (.ifCond .eq 7, 3) := by decide +kernel
theorem dX7_pleatOf_4 : decode cX7_pleatOf 4 = .ok (.iload_n 1, 1) := by decide +kernel
theorem dX7_pleatOf_5 : decode cX7_pleatOf 5 = .ok (.goto 6, 3) := by decide +kernel
theorem dX7_pleatOf_8 : decode cX7_pleatOf 8 = .ok (.iload_n 1, 1) := by decide +kernel
theorem dX7_pleatOf_9 : decode cX7_pleatOf 9 = .ok (.iconst 1, 1) := by decide +kernel
theorem dX7_pleatOf_10 : decode cX7_pleatOf 10 = .ok (.isub, 1) := by decide +kernel
theorem dX7_pleatOf_11 : decode cX7_pleatOf 11 = .ok (.istore_n 3, 1) := by decide +kernel
theorem dX7_pleatOf_12 : decode cX7_pleatOf 12 = .ok (.aload_n 0, 1) := by decide +kernel
theorem dX7_pleatOf_13 : decode cX7_pleatOf 13 = .ok (.iload_n 3, 1) := by decide +kernel
theorem dX7_pleatOf_14 : decode cX7_pleatOf 14 = .ok (.invokevirtual 122, 3) := by decide +kernel
theorem dX7_pleatOf_17 : decode cX7_pleatOf 17 = .ok (.ifCond .eq 7, 3) := by decide +kernel
theorem dX7_pleatOf_20 : decode cX7_pleatOf 20 = .ok (.iload_n 3, 1) := by decide +kernel
theorem dX7_pleatOf_21 : decode cX7_pleatOf 21 = .ok (.goto 5, 3) := by decide +kernel
theorem dX7_pleatOf_24 : decode cX7_pleatOf 24 = .ok (.bipush (-9), 2) := by decide +kernel
theorem dX7_pleatOf_26 : decode cX7_pleatOf 26 = .ok (.ireturn, 1) := by decide +kernel
set_option maxRecDepth 20000 in
theorem ggX7_canStep_X7_isTraveller : GoodIn wsX7_canStep wsX7_isTraveller := goodIn_r _ [6, 7, 8, 9, 5, 10, 41, 42, 43, 44, 45, 46, 47, 48, 49, 50, 51, 52, 53, 54, 55, 56, 57, 58, 59, 60, 61, 62, 63, 64, 65, 66, 67, 68, 69, 70] (by decide +kernel) (by decide +kernel)
set_option maxRecDepth 20000 in
theorem gX7_canStep_X7_isTraveller : GoodIn wsX7_canStep (wsV RX7 126 RX7 yX7_isTraveller wsX7_isTraveller) := goodIn_app (goodIn_of _ (by decide +kernel)) ggX7_canStep_X7_isTraveller
set_option maxRecDepth 20000 in
theorem ggX7_canStep_X7_pleatOf : GoodIn wsX7_canStep wsX7_pleatOf := goodIn_r _ [14, 15, 16, 17, 5, 18, 19, 8, 9, 10, 41, 42, 43, 44, 45, 46, 47, 48, 49, 50, 51, 52, 53, 54, 55, 56, 57, 58, 59, 60, 61, 62, 63, 64, 65, 66, 67, 68, 69, 70] (by decide +kernel) (by decide +kernel)
set_option maxRecDepth 20000 in
theorem gX7_canStep_X7_pleatOf : GoodIn wsX7_canStep (wsV RX7 129 RX7 yX7_pleatOf wsX7_pleatOf) := goodIn_app (goodIn_of _ (by decide +kernel)) ggX7_canStep_X7_pleatOf
set_option maxRecDepth 20000 in
theorem ggX7_canStep_X7_paysOn : GoodIn wsX7_canStep wsX7_paysOn := goodIn_r _ [23, 24, 1, 25, 26, 27, 5, 28, 29, 30, 31, 32, 33, 34, 35, 36, 37, 38, 39, 40, 41, 42, 43, 44, 45, 46, 47, 48, 49, 50, 51, 52, 53, 54, 55, 56, 57, 58, 59, 60, 61, 62, 63, 64, 65, 66, 67, 68, 69, 70] (by decide +kernel) (by decide +kernel)
set_option maxRecDepth 20000 in
theorem gX7_canStep_X7_paysOn : GoodIn wsX7_canStep (wsV RX7 133 RX7 yX7_paysOn wsX7_paysOn) := goodIn_app (goodIn_of _ (by decide +kernel)) ggX7_canStep_X7_paysOn
theorem dX7_canStep_0 : decode cX7_canStep 0 = .ok (.bipush 14, 2) := by decide +kernel
theorem dX7_canStep_2 : decode cX7_canStep 2 = .ok (.iload_n 1, 1) := by decide +kernel
theorem dX7_canStep_3 : decode cX7_canStep 3 = .ok (.imul, 1) := by decide +kernel
theorem dX7_canStep_4 : decode cX7_canStep 4 = .ok (.istore 4, 2) := by decide +kernel
theorem dX7_canStep_6 : decode cX7_canStep 6 = .ok (.aload_n 0, 1) := by decide +kernel
theorem dX7_canStep_7 : decode cX7_canStep 7 = .ok (.iload_n 2, 1) := by decide +kernel
theorem dX7_canStep_8 : decode cX7_canStep 8 = .ok (.invokevirtual 126, 3) := by decide +kernel
theorem dX7_canStep_11 : decode cX7_canStep 11 = .ok (.ifCond .eq 20, 3) := by decide +kernel
theorem dX7_canStep_14 : decode cX7_canStep 14 = .ok (.aload_n 0, 1) := by decide +kernel
theorem dX7_canStep_15 : decode cX7_canStep 15 = .ok (.aload_n 0, 1) := by decide +kernel
theorem dX7_canStep_16 : decode cX7_canStep 16 = .ok (.getfield 22, 3) := by decide +kernel
theorem dX7_canStep_19 : decode cX7_canStep 19 = .ok (.iload 4, 2) := by decide +kernel
theorem dX7_canStep_21 : decode cX7_canStep 21 = .ok (.iload_n 2, 1) := by decide +kernel
theorem dX7_canStep_22 : decode cX7_canStep 22 = .ok (.iadd, 1) := by decide +kernel
theorem dX7_canStep_23 : decode cX7_canStep 23 = .ok (.iaload, 1) := by decide +kernel
theorem dX7_canStep_24 : decode cX7_canStep 24 = .ok (.iload_n 3, 1) := by decide +kernel
theorem dX7_canStep_25 : decode cX7_canStep 25 = .ok (.invokevirtual 129, 3) := by decide +kernel
theorem dX7_canStep_28 : decode cX7_canStep 28 = .ok (.goto 5, 3) := by decide +kernel
theorem dX7_canStep_31 : decode cX7_canStep 31 = .ok (.bipush (-9), 2) := by decide +kernel
theorem dX7_canStep_33 : decode cX7_canStep 33 = .ok (.istore 5, 2) := by decide +kernel
theorem dX7_canStep_35 : decode cX7_canStep 35 = .ok (.iload 5, 2) := by decide +kernel
theorem dX7_canStep_37 : decode cX7_canStep 37 = .ok (.bipush (-9), 2) := by decide +kernel
theorem dX7_canStep_39 : decode cX7_canStep 39 = .ok (.if_icmp .eq 29, 3) := by decide +kernel
theorem dX7_canStep_42 : decode cX7_canStep 42 = .ok (.aload_n 0, 1) := by decide +kernel
theorem dX7_canStep_43 : decode cX7_canStep 43 = .ok (.getfield 22, 3) := by decide +kernel
theorem dX7_canStep_46 : decode cX7_canStep 46 = .ok (.iload 4, 2) := by decide +kernel
theorem dX7_canStep_48 : decode cX7_canStep 48 = .ok (.iconst 5, 1) := by decide +kernel
theorem dX7_canStep_49 : decode cX7_canStep 49 = .ok (.iadd, 1) := by decide +kernel
theorem dX7_canStep_50 : decode cX7_canStep 50 = .ok (.iload_n 2, 1) := by decide +kernel
theorem dX7_canStep_51 : decode cX7_canStep 51 = .ok (.iadd, 1) := by decide +kernel
theorem dX7_canStep_52 : decode cX7_canStep 52 = .ok (.iaload, 1) := by decide +kernel
theorem dX7_canStep_53 : decode cX7_canStep 53 = .ok (.aload_n 0, 1) := by decide +kernel
theorem dX7_canStep_54 : decode cX7_canStep 54 = .ok (.iload_n 1, 1) := by decide +kernel
theorem dX7_canStep_55 : decode cX7_canStep 55 = .ok (.iload_n 2, 1) := by decide +kernel
theorem dX7_canStep_56 : decode cX7_canStep 56 = .ok (.iload 5, 2) := by decide +kernel
theorem dX7_canStep_58 : decode cX7_canStep 58 = .ok (.invokevirtual 133, 3) := by decide +kernel
theorem dX7_canStep_61 : decode cX7_canStep 61 = .ok (.if_icmp .lt 7, 3) := by decide +kernel
theorem dX7_canStep_64 : decode cX7_canStep 64 = .ok (.iconst 1, 1) := by decide +kernel
theorem dX7_canStep_65 : decode cX7_canStep 65 = .ok (.goto 4, 3) := by decide +kernel
theorem dX7_canStep_68 : decode cX7_canStep 68 = .ok (.iconst 0, 1) := by decide +kernel
theorem dX7_canStep_69 : decode cX7_canStep 69 = .ok (.ireturn, 1) := by decide +kernel
set_option maxRecDepth 20000 in
theorem ggX7_stepOn_X7_pleatOf : GoodIn wsX7_stepOn wsX7_pleatOf := goodIn_r _ [9, 10, 11, 12, 8, 13, 14, 15, 16, 17, 37, 38, 39, 40, 41, 42, 43, 44, 45, 46, 47, 48, 49, 50, 51, 52, 53, 54, 55, 56, 57, 58, 59, 60, 61, 62, 63, 64, 65, 66] (by decide +kernel) (by decide +kernel)
set_option maxRecDepth 20000 in
theorem gX7_stepOn_X7_pleatOf : GoodIn wsX7_stepOn (wsV RX7 129 RX7 yX7_pleatOf wsX7_pleatOf) := goodIn_app (goodIn_of _ (by decide +kernel)) ggX7_stepOn_X7_pleatOf
set_option maxRecDepth 20000 in
theorem ggX7_stepOn_X7_paysOn : GoodIn wsX7_stepOn wsX7_paysOn := goodIn_r _ [21, 4, 1, 22, 23, 24, 8, 25, 26, 2, 27, 28, 29, 30, 31, 32, 33, 34, 35, 36, 37, 38, 39, 40, 41, 42, 43, 44, 45, 46, 47, 48, 49, 50, 51, 52, 53, 54, 55, 56, 57, 58, 59, 60, 61, 62, 63, 64, 65, 66] (by decide +kernel) (by decide +kernel)
set_option maxRecDepth 20000 in
theorem gX7_stepOn_X7_paysOn : GoodIn wsX7_stepOn (wsV RX7 133 RX7 yX7_paysOn wsX7_paysOn) := goodIn_app (goodIn_of _ (by decide +kernel)) ggX7_stepOn_X7_paysOn
theorem dX7_stepOn_0 : decode cX7_stepOn 0 = .ok (.bipush 14, 2) := by decide +kernel
theorem dX7_stepOn_2 : decode cX7_stepOn 2 = .ok (.iload_n 1, 1) := by decide +kernel
theorem dX7_stepOn_3 : decode cX7_stepOn 3 = .ok (.imul, 1) := by decide +kernel
theorem dX7_stepOn_4 : decode cX7_stepOn 4 = .ok (.istore 4, 2) := by decide +kernel
theorem dX7_stepOn_6 : decode cX7_stepOn 6 = .ok (.aload_n 0, 1) := by decide +kernel
theorem dX7_stepOn_7 : decode cX7_stepOn 7 = .ok (.aload_n 0, 1) := by decide +kernel
theorem dX7_stepOn_8 : decode cX7_stepOn 8 = .ok (.getfield 22, 3) := by decide +kernel
theorem dX7_stepOn_11 : decode cX7_stepOn 11 = .ok (.iload 4, 2) := by decide +kernel
theorem dX7_stepOn_13 : decode cX7_stepOn 13 = .ok (.iload_n 2, 1) := by decide +kernel
theorem dX7_stepOn_14 : decode cX7_stepOn 14 = .ok (.iadd, 1) := by decide +kernel
theorem dX7_stepOn_15 : decode cX7_stepOn 15 = .ok (.iaload, 1) := by decide +kernel
theorem dX7_stepOn_16 : decode cX7_stepOn 16 = .ok (.iload_n 3, 1) := by decide +kernel
theorem dX7_stepOn_17 : decode cX7_stepOn 17 = .ok (.invokevirtual 129, 3) := by decide +kernel
theorem dX7_stepOn_20 : decode cX7_stepOn 20 = .ok (.istore 5, 2) := by decide +kernel
theorem dX7_stepOn_22 : decode cX7_stepOn 22 = .ok (.aload_n 0, 1) := by decide +kernel
theorem dX7_stepOn_23 : decode cX7_stepOn 23 = .ok (.getfield 22, 3) := by decide +kernel
theorem dX7_stepOn_26 : decode cX7_stepOn 26 = .ok (.iload 4, 2) := by decide +kernel
theorem dX7_stepOn_28 : decode cX7_stepOn 28 = .ok (.iconst 5, 1) := by decide +kernel
theorem dX7_stepOn_29 : decode cX7_stepOn 29 = .ok (.iadd, 1) := by decide +kernel
theorem dX7_stepOn_30 : decode cX7_stepOn 30 = .ok (.iload_n 2, 1) := by decide +kernel
theorem dX7_stepOn_31 : decode cX7_stepOn 31 = .ok (.iadd, 1) := by decide +kernel
theorem dX7_stepOn_32 : decode cX7_stepOn 32 = .ok (.aload_n 0, 1) := by decide +kernel
theorem dX7_stepOn_33 : decode cX7_stepOn 33 = .ok (.getfield 13, 3) := by decide +kernel
theorem dX7_stepOn_36 : decode cX7_stepOn 36 = .ok (.iload 5, 2) := by decide +kernel
theorem dX7_stepOn_38 : decode cX7_stepOn 38 = .ok (.iaload, 1) := by decide +kernel
theorem dX7_stepOn_39 : decode cX7_stepOn 39 = .ok (.iconst 3, 1) := by decide +kernel
theorem dX7_stepOn_40 : decode cX7_stepOn 40 = .ok (.if_icmp .ne 12, 3) := by decide +kernel
theorem dX7_stepOn_43 : decode cX7_stepOn 43 = .ok (.aload_n 0, 1) := by decide +kernel
theorem dX7_stepOn_44 : decode cX7_stepOn 44 = .ok (.getfield 16, 3) := by decide +kernel
theorem dX7_stepOn_47 : decode cX7_stepOn 47 = .ok (.iload_n 2, 1) := by decide +kernel
theorem dX7_stepOn_48 : decode cX7_stepOn 48 = .ok (.iaload, 1) := by decide +kernel
theorem dX7_stepOn_49 : decode cX7_stepOn 49 = .ok (.goto 23, 3) := by decide +kernel
theorem dX7_stepOn_52 : decode cX7_stepOn 52 = .ok (.aload_n 0, 1) := by decide +kernel
theorem dX7_stepOn_53 : decode cX7_stepOn 53 = .ok (.getfield 22, 3) := by decide +kernel
theorem dX7_stepOn_56 : decode cX7_stepOn 56 = .ok (.iload 4, 2) := by decide +kernel
theorem dX7_stepOn_58 : decode cX7_stepOn 58 = .ok (.iconst 5, 1) := by decide +kernel
theorem dX7_stepOn_59 : decode cX7_stepOn 59 = .ok (.iadd, 1) := by decide +kernel
theorem dX7_stepOn_60 : decode cX7_stepOn 60 = .ok (.iload_n 2, 1) := by decide +kernel
theorem dX7_stepOn_61 : decode cX7_stepOn 61 = .ok (.iadd, 1) := by decide +kernel
theorem dX7_stepOn_62 : decode cX7_stepOn 62 = .ok (.iaload, 1) := by decide +kernel
theorem dX7_stepOn_63 : decode cX7_stepOn 63 = .ok (.aload_n 0, 1) := by decide +kernel
theorem dX7_stepOn_64 : decode cX7_stepOn 64 = .ok (.iload_n 1, 1) := by decide +kernel
theorem dX7_stepOn_65 : decode cX7_stepOn 65 = .ok (.iload_n 2, 1) := by decide +kernel
theorem dX7_stepOn_66 : decode cX7_stepOn 66 = .ok (.iload 5, 2) := by decide +kernel
theorem dX7_stepOn_68 : decode cX7_stepOn 68 = .ok (.invokevirtual 133, 3) := by decide +kernel
theorem dX7_stepOn_71 : decode cX7_stepOn 71 = .ok (.isub, 1) := by decide +kernel
theorem dX7_stepOn_72 : decode cX7_stepOn 72 = .ok (.iastore, 1) := by decide +kernel
theorem dX7_stepOn_73 : decode cX7_stepOn 73 = .ok (.aload_n 0, 1) := by decide +kernel
theorem dX7_stepOn_74 : decode cX7_stepOn 74 = .ok (.getfield 22, 3) := by decide +kernel
theorem dX7_stepOn_77 : decode cX7_stepOn 77 = .ok (.iload 4, 2) := by decide +kernel
theorem dX7_stepOn_79 : decode cX7_stepOn 79 = .ok (.iload_n 2, 1) := by decide +kernel
theorem dX7_stepOn_80 : decode cX7_stepOn 80 = .ok (.iadd, 1) := by decide +kernel
theorem dX7_stepOn_81 : decode cX7_stepOn 81 = .ok (.dup2, 1) := by decide +kernel
theorem dX7_stepOn_82 : decode cX7_stepOn 82 = .ok (.iaload, 1) := by decide +kernel
theorem dX7_stepOn_83 : decode cX7_stepOn 83 = .ok (.iload_n 3, 1) := by decide +kernel
theorem dX7_stepOn_84 : decode cX7_stepOn 84 = .ok (.ifCond .eq 7, 3) := by decide +kernel
theorem dX7_stepOn_87 : decode cX7_stepOn 87 = .ok (.iconst 1, 1) := by decide +kernel
theorem dX7_stepOn_88 : decode cX7_stepOn 88 = .ok (.goto 4, 3) := by decide +kernel
theorem dX7_stepOn_91 : decode cX7_stepOn 91 = .ok (.iconst (-1), 1) := by decide +kernel
theorem dX7_stepOn_92 : decode cX7_stepOn 92 = .ok (.iadd, 1) := by decide +kernel
theorem dX7_stepOn_93 : decode cX7_stepOn 93 = .ok (.iastore, 1) := by decide +kernel
theorem dX7_stepOn_94 : decode cX7_stepOn 94 = .ok (.aload_n 0, 1) := by decide +kernel
theorem dX7_stepOn_95 : decode cX7_stepOn 95 = .ok (.getfield 22, 3) := by decide +kernel
theorem dX7_stepOn_98 : decode cX7_stepOn 98 = .ok (.iload 4, 2) := by decide +kernel
theorem dX7_stepOn_100 : decode cX7_stepOn 100 = .ok (.bipush 11, 2) := by decide +kernel
theorem dX7_stepOn_102 : decode cX7_stepOn 102 = .ok (.iadd, 1) := by decide +kernel
theorem dX7_stepOn_103 : decode cX7_stepOn 103 = .ok (.aload_n 0, 1) := by decide +kernel
theorem dX7_stepOn_104 : decode cX7_stepOn 104 = .ok (.getfield 19, 3) := by decide +kernel
theorem dX7_stepOn_107 : decode cX7_stepOn 107 = .ok (.iload_n 2, 1) := by decide +kernel
theorem dX7_stepOn_108 : decode cX7_stepOn 108 = .ok (.iaload, 1) := by decide +kernel
theorem dX7_stepOn_109 : decode cX7_stepOn 109 = .ok (.iconst 3, 1) := by decide +kernel
theorem dX7_stepOn_110 : decode cX7_stepOn 110 = .ok (.if_icmp .ne 10, 3) := by decide +kernel
theorem dX7_stepOn_113 : decode cX7_stepOn 113 = .ok (.iload 5, 2) := by decide +kernel
theorem dX7_stepOn_115 : decode cX7_stepOn 115 = .ok (.iconst 1, 1) := by decide +kernel
theorem dX7_stepOn_116 : decode cX7_stepOn 116 = .ok (.iadd, 1) := by decide +kernel
theorem dX7_stepOn_117 : decode cX7_stepOn 117 = .ok (.goto 4, 3) := by decide +kernel
theorem dX7_stepOn_120 : decode cX7_stepOn 120 = .ok (.iconst 0, 1) := by decide +kernel
theorem dX7_stepOn_121 : decode cX7_stepOn 121 = .ok (.iastore, 1) := by decide +kernel
theorem dX7_stepOn_122 : decode cX7_stepOn 122 = .ok (.aload_n 0, 1) := by decide +kernel
theorem dX7_stepOn_123 : decode cX7_stepOn 123 = .ok (.getfield 22, 3) := by decide +kernel
theorem dX7_stepOn_126 : decode cX7_stepOn 126 = .ok (.iload 4, 2) := by decide +kernel
theorem dX7_stepOn_128 : decode cX7_stepOn 128 = .ok (.bipush 13, 2) := by decide +kernel
theorem dX7_stepOn_130 : decode cX7_stepOn 130 = .ok (.iadd, 1) := by decide +kernel
theorem dX7_stepOn_131 : decode cX7_stepOn 131 = .ok (.dup2, 1) := by decide +kernel
theorem dX7_stepOn_132 : decode cX7_stepOn 132 = .ok (.iaload, 1) := by decide +kernel
theorem dX7_stepOn_133 : decode cX7_stepOn 133 = .ok (.iconst 1, 1) := by decide +kernel
theorem dX7_stepOn_134 : decode cX7_stepOn 134 = .ok (.iadd, 1) := by decide +kernel
theorem dX7_stepOn_135 : decode cX7_stepOn 135 = .ok (.iastore, 1) := by decide +kernel
theorem dX7_stepOn_136 : decode cX7_stepOn 136 = .ok (.return_, 1) := by decide +kernel
set_option maxRecDepth 20000 in
theorem ggX7_rested_X7_atLeast : GoodIn wsX7_rested wsX7_atLeast := goodIn_r _ [5] (by decide +kernel) (by decide +kernel)
set_option maxRecDepth 20000 in
theorem gX7_rested_X7_atLeast : GoodIn wsX7_rested (va_wsS RX7 112 yX7_atLeast wsX7_atLeast) := goodIn_app (goodIn_of _ (by decide +kernel)) ggX7_rested_X7_atLeast
theorem dX7_rested_0 : decode cX7_rested 0 = .ok (.iload_n 2, 1) := by decide +kernel
theorem dX7_rested_1 : decode cX7_rested 1 = .ok (.aload_n 0, 1) := by decide +kernel
theorem dX7_rested_2 : decode cX7_rested 2 = .ok (.getfield 16, 3) := by decide +kernel
theorem dX7_rested_5 : decode cX7_rested 5 = .ok (.iload_n 1, 1) := by decide +kernel
theorem dX7_rested_6 : decode cX7_rested 6 = .ok (.iaload, 1) := by decide +kernel
theorem dX7_rested_7 : decode cX7_rested 7 = .ok (.iconst 2, 1) := by decide +kernel
theorem dX7_rested_8 : decode cX7_rested 8 = .ok (.idiv, 1) := by decide +kernel
theorem dX7_rested_9 : decode cX7_rested 9 = .ok (.iconst 1, 1) := by decide +kernel
theorem dX7_rested_10 : decode cX7_rested 10 = .ok (.invokestatic 112, 3) := by decide +kernel
theorem dX7_rested_13 : decode cX7_rested 13 = .ok (.iadd, 1) := by decide +kernel
theorem dX7_rested_14 : decode cX7_rested 14 = .ok (.istore_n 3, 1) := by decide +kernel
theorem dX7_rested_15 : decode cX7_rested 15 = .ok (.iload_n 3, 1) := by decide +kernel
theorem dX7_rested_16 : decode cX7_rested 16 = .ok (.aload_n 0, 1) := by decide +kernel
theorem dX7_rested_17 : decode cX7_rested 17 = .ok (.getfield 16, 3) := by decide +kernel
theorem dX7_rested_20 : decode cX7_rested 20 = .ok (.iload_n 1, 1) := by decide +kernel
theorem dX7_rested_21 : decode cX7_rested 21 = .ok (.iaload, 1) := by decide +kernel
theorem dX7_rested_22 : decode cX7_rested 22 = .ok (.if_icmp .le 12, 3) := by decide +kernel
theorem dX7_rested_25 : decode cX7_rested 25 = .ok (.aload_n 0, 1) := by decide +kernel
theorem dX7_rested_26 : decode cX7_rested 26 = .ok (.getfield 16, 3) := by decide +kernel
theorem dX7_rested_29 : decode cX7_rested 29 = .ok (.iload_n 1, 1) := by decide +kernel
theorem dX7_rested_30 : decode cX7_rested 30 = .ok (.iaload, 1) := by decide +kernel
theorem dX7_rested_31 : decode cX7_rested 31 = .ok (.goto 4, 3) := by decide +kernel
theorem dX7_rested_34 : decode cX7_rested 34 = .ok (.iload_n 3, 1) := by decide +kernel
theorem dX7_rested_35 : decode cX7_rested 35 = .ok (.ireturn, 1) := by decide +kernel
set_option maxRecDepth 20000 in
theorem ggX7_restOn_X7_rested : GoodIn wsX7_restOn wsX7_rested := goodIn_r _ [6, 7, 8, 9, 5, 10, 11, 12, 13, 14, 15, 16, 17, 18, 19, 20, 21, 22, 23, 24, 25, 26, 27, 28, 29, 30, 31, 32, 33, 34, 35, 36, 37, 38, 39, 40] (by decide +kernel) (by decide +kernel)
set_option maxRecDepth 20000 in
theorem gX7_restOn_X7_rested : GoodIn wsX7_restOn (wsV RX7 137 RX7 yX7_rested wsX7_rested) := goodIn_app (goodIn_of _ (by decide +kernel)) ggX7_restOn_X7_rested
theorem dX7_restOn_0 : decode cX7_restOn 0 = .ok (.bipush 14, 2) := by decide +kernel
theorem dX7_restOn_2 : decode cX7_restOn 2 = .ok (.iload_n 1, 1) := by decide +kernel
theorem dX7_restOn_3 : decode cX7_restOn 3 = .ok (.imul, 1) := by decide +kernel
theorem dX7_restOn_4 : decode cX7_restOn 4 = .ok (.istore_n 3, 1) := by decide +kernel
theorem dX7_restOn_5 : decode cX7_restOn 5 = .ok (.aload_n 0, 1) := by decide +kernel
theorem dX7_restOn_6 : decode cX7_restOn 6 = .ok (.getfield 22, 3) := by decide +kernel
theorem dX7_restOn_9 : decode cX7_restOn 9 = .ok (.iload_n 3, 1) := by decide +kernel
theorem dX7_restOn_10 : decode cX7_restOn 10 = .ok (.iconst 5, 1) := by decide +kernel
theorem dX7_restOn_11 : decode cX7_restOn 11 = .ok (.iadd, 1) := by decide +kernel
theorem dX7_restOn_12 : decode cX7_restOn 12 = .ok (.iload_n 2, 1) := by decide +kernel
theorem dX7_restOn_13 : decode cX7_restOn 13 = .ok (.iadd, 1) := by decide +kernel
theorem dX7_restOn_14 : decode cX7_restOn 14 = .ok (.aload_n 0, 1) := by decide +kernel
theorem dX7_restOn_15 : decode cX7_restOn 15 = .ok (.iload_n 2, 1) := by decide +kernel
theorem dX7_restOn_16 : decode cX7_restOn 16 = .ok (.aload_n 0, 1) := by decide +kernel
theorem dX7_restOn_17 : decode cX7_restOn 17 = .ok (.getfield 22, 3) := by decide +kernel
theorem dX7_restOn_20 : decode cX7_restOn 20 = .ok (.iload_n 3, 1) := by decide +kernel
theorem dX7_restOn_21 : decode cX7_restOn 21 = .ok (.iconst 5, 1) := by decide +kernel
theorem dX7_restOn_22 : decode cX7_restOn 22 = .ok (.iadd, 1) := by decide +kernel
theorem dX7_restOn_23 : decode cX7_restOn 23 = .ok (.iload_n 2, 1) := by decide +kernel
theorem dX7_restOn_24 : decode cX7_restOn 24 = .ok (.iadd, 1) := by decide +kernel
theorem dX7_restOn_25 : decode cX7_restOn 25 = .ok (.iaload, 1) := by decide +kernel
theorem dX7_restOn_26 : decode cX7_restOn 26 = .ok (.invokevirtual 137, 3) := by decide +kernel
theorem dX7_restOn_29 : decode cX7_restOn 29 = .ok (.iastore, 1) := by decide +kernel
theorem dX7_restOn_30 : decode cX7_restOn 30 = .ok (.aload_n 0, 1) := by decide +kernel
theorem dX7_restOn_31 : decode cX7_restOn 31 = .ok (.getfield 22, 3) := by decide +kernel
theorem dX7_restOn_34 : decode cX7_restOn 34 = .ok (.iload_n 3, 1) := by decide +kernel
theorem dX7_restOn_35 : decode cX7_restOn 35 = .ok (.bipush 11, 2) := by decide +kernel
theorem dX7_restOn_37 : decode cX7_restOn 37 = .ok (.iadd, 1) := by decide +kernel
theorem dX7_restOn_38 : decode cX7_restOn 38 = .ok (.iconst 0, 1) := by decide +kernel
theorem dX7_restOn_39 : decode cX7_restOn 39 = .ok (.iastore, 1) := by decide +kernel
theorem dX7_restOn_40 : decode cX7_restOn 40 = .ok (.aload_n 0, 1) := by decide +kernel
theorem dX7_restOn_41 : decode cX7_restOn 41 = .ok (.getfield 22, 3) := by decide +kernel
theorem dX7_restOn_44 : decode cX7_restOn 44 = .ok (.iload_n 3, 1) := by decide +kernel
theorem dX7_restOn_45 : decode cX7_restOn 45 = .ok (.bipush 13, 2) := by decide +kernel
theorem dX7_restOn_47 : decode cX7_restOn 47 = .ok (.iadd, 1) := by decide +kernel
theorem dX7_restOn_48 : decode cX7_restOn 48 = .ok (.dup2, 1) := by decide +kernel
theorem dX7_restOn_49 : decode cX7_restOn 49 = .ok (.iaload, 1) := by decide +kernel
theorem dX7_restOn_50 : decode cX7_restOn 50 = .ok (.iconst 1, 1) := by decide +kernel
theorem dX7_restOn_51 : decode cX7_restOn 51 = .ok (.iadd, 1) := by decide +kernel
theorem dX7_restOn_52 : decode cX7_restOn 52 = .ok (.iastore, 1) := by decide +kernel
theorem dX7_restOn_53 : decode cX7_restOn 53 = .ok (.return_, 1) := by decide +kernel
set_option maxRecDepth 20000 in
theorem ggX7_pleat_X7_isPleat : GoodIn wsX7_pleat wsX7_isPleat := goodIn_r _ [8, 9, 10, 11, 7, 12, 24, 25, 26, 27, 28, 29, 30, 31, 32, 33, 34, 35, 36, 37, 38, 39, 40, 41, 42, 43, 44, 45, 46, 47, 48, 49, 50, 51, 52, 53] (by decide +kernel) (by decide +kernel)
set_option maxRecDepth 20000 in
theorem gX7_pleat_X7_isPleat : GoodIn wsX7_pleat (wsV RX7 122 RX7 yX7_isPleat wsX7_isPleat) := goodIn_app (goodIn_of _ (by decide +kernel)) ggX7_pleat_X7_isPleat
set_option maxRecDepth 20000 in
theorem ggX7_pleat_X7_costs : GoodIn wsX7_pleat wsX7_costs := goodIn_r _ [16, 17, 2, 1, 18, 19, 7, 20, 21, 22, 23, 24, 25, 26, 27, 28, 29, 30, 31, 32, 33, 34, 35, 36, 37, 38, 39, 40, 41, 42, 43, 44, 45, 46, 47, 48, 49, 50, 51, 52, 53] (by decide +kernel) (by decide +kernel)
set_option maxRecDepth 20000 in
theorem gX7_pleat_X7_costs : GoodIn wsX7_pleat (wsV RX7 115 RX7 yX7_costs wsX7_costs) := goodIn_app (goodIn_of _ (by decide +kernel)) ggX7_pleat_X7_costs
theorem dX7_pleat_0 : decode cX7_pleat 0 = .ok (.aload_n 0, 1) := by decide +kernel
theorem dX7_pleat_1 : decode cX7_pleat 1 = .ok (.iload_n 1, 1) := by decide +kernel
theorem dX7_pleat_2 : decode cX7_pleat 2 = .ok (.invokevirtual 122, 3) := by decide +kernel
theorem dX7_pleat_5 : decode cX7_pleat 5 = .ok (.ifCond .ne 5, 3) := by decide +kernel
theorem dX7_pleat_8 : decode cX7_pleat 8 = .ok (.iconst (-1), 1) := by decide +kernel
theorem dX7_pleat_9 : decode cX7_pleat 9 = .ok (.ireturn, 1) := by decide +kernel
theorem dX7_pleat_10 : decode cX7_pleat 10 = .ok (.iload_n 2, 1) := by decide +kernel
theorem dX7_pleat_11 : decode cX7_pleat 11 = .ok (.tableswitch 105 0 4 #[33, 40, 47, 74, 86], 33) := by decide +kernel
theorem dX7_pleat_44 : decode cX7_pleat 44 = .ok (.aload_n 0, 1) := by decide +kernel
theorem dX7_pleat_45 : decode cX7_pleat 45 = .ok (.getfield 7, 3) := by decide +kernel
theorem dX7_pleat_48 : decode cX7_pleat 48 = .ok (.iload_n 1, 1) := by decide +kernel
theorem dX7_pleat_49 : decode cX7_pleat 49 = .ok (.iaload, 1) := by decide +kernel
theorem dX7_pleat_50 : decode cX7_pleat 50 = .ok (.ireturn, 1) := by decide +kernel
theorem dX7_pleat_51 : decode cX7_pleat 51 = .ok (.aload_n 0, 1) := by decide +kernel
theorem dX7_pleat_52 : decode cX7_pleat 52 = .ok (.getfield 13, 3) := by decide +kernel
theorem dX7_pleat_55 : decode cX7_pleat 55 = .ok (.iload_n 1, 1) := by decide +kernel
theorem dX7_pleat_56 : decode cX7_pleat 56 = .ok (.iaload, 1) := by decide +kernel
theorem dX7_pleat_57 : decode cX7_pleat 57 = .ok (.ireturn, 1) := by decide +kernel
theorem dX7_pleat_58 : decode cX7_pleat 58 = .ok (.aload_n 0, 1) := by decide +kernel
theorem dX7_pleat_59 : decode cX7_pleat 59 = .ok (.iload_n 1, 1) := by decide +kernel
theorem dX7_pleat_60 : decode cX7_pleat 60 = .ok (.aload_n 0, 1) := by decide +kernel
theorem dX7_pleat_61 : decode cX7_pleat 61 = .ok (.getfield 22, 3) := by decide +kernel
theorem dX7_pleat_64 : decode cX7_pleat 64 = .ok (.bipush 11, 2) := by decide +kernel
theorem dX7_pleat_66 : decode cX7_pleat 66 = .ok (.iaload, 1) := by decide +kernel
theorem dX7_pleat_67 : decode cX7_pleat 67 = .ok (.aload_n 0, 1) := by decide +kernel
theorem dX7_pleat_68 : decode cX7_pleat 68 = .ok (.getfield 22, 3) := by decide +kernel
theorem dX7_pleat_71 : decode cX7_pleat 71 = .ok (.bipush 10, 2) := by decide +kernel
theorem dX7_pleat_73 : decode cX7_pleat 73 = .ok (.iaload, 1) := by decide +kernel
theorem dX7_pleat_74 : decode cX7_pleat 74 = .ok (.aload_n 0, 1) := by decide +kernel
theorem dX7_pleat_75 : decode cX7_pleat 75 = .ok (.getfield 22, 3) := by decide +kernel
theorem dX7_pleat_78 : decode cX7_pleat 78 = .ok (.bipush 12, 2) := by decide +kernel
theorem dX7_pleat_80 : decode cX7_pleat 80 = .ok (.iaload, 1) := by decide +kernel
theorem dX7_pleat_81 : decode cX7_pleat 81 = .ok (.invokevirtual 115, 3) := by decide +kernel
theorem dX7_pleat_84 : decode cX7_pleat 84 = .ok (.ireturn, 1) := by decide +kernel
theorem dX7_pleat_85 : decode cX7_pleat 85 = .ok (.aload_n 0, 1) := by decide +kernel
theorem dX7_pleat_86 : decode cX7_pleat 86 = .ok (.getfield 22, 3) := by decide +kernel
theorem dX7_pleat_89 : decode cX7_pleat 89 = .ok (.bipush 10, 2) := by decide +kernel
theorem dX7_pleat_91 : decode cX7_pleat 91 = .ok (.iaload, 1) := by decide +kernel
theorem dX7_pleat_92 : decode cX7_pleat 92 = .ok (.iload_n 1, 1) := by decide +kernel
theorem dX7_pleat_93 : decode cX7_pleat 93 = .ok (.ishr, 1) := by decide +kernel
theorem dX7_pleat_94 : decode cX7_pleat 94 = .ok (.iconst 1, 1) := by decide +kernel
theorem dX7_pleat_95 : decode cX7_pleat 95 = .ok (.iand, 1) := by decide +kernel
theorem dX7_pleat_96 : decode cX7_pleat 96 = .ok (.ireturn, 1) := by decide +kernel
theorem dX7_pleat_97 : decode cX7_pleat 97 = .ok (.aload_n 0, 1) := by decide +kernel
theorem dX7_pleat_98 : decode cX7_pleat 98 = .ok (.getfield 22, 3) := by decide +kernel
theorem dX7_pleat_101 : decode cX7_pleat 101 = .ok (.bipush 11, 2) := by decide +kernel
theorem dX7_pleat_103 : decode cX7_pleat 103 = .ok (.iaload, 1) := by decide +kernel
theorem dX7_pleat_104 : decode cX7_pleat 104 = .ok (.iload_n 1, 1) := by decide +kernel
theorem dX7_pleat_105 : decode cX7_pleat 105 = .ok (.iconst 1, 1) := by decide +kernel
theorem dX7_pleat_106 : decode cX7_pleat 106 = .ok (.iadd, 1) := by decide +kernel
theorem dX7_pleat_107 : decode cX7_pleat 107 = .ok (.if_icmp .ne 7, 3) := by decide +kernel
theorem dX7_pleat_110 : decode cX7_pleat 110 = .ok (.iconst 1, 1) := by decide +kernel
theorem dX7_pleat_111 : decode cX7_pleat 111 = .ok (.goto 4, 3) := by decide +kernel
theorem dX7_pleat_114 : decode cX7_pleat 114 = .ok (.iconst 0, 1) := by decide +kernel
theorem dX7_pleat_115 : decode cX7_pleat 115 = .ok (.ireturn, 1) := by decide +kernel
theorem dX7_pleat_116 : decode cX7_pleat 116 = .ok (.bipush (-2), 2) := by decide +kernel
theorem dX7_pleat_118 : decode cX7_pleat 118 = .ok (.ireturn, 1) := by decide +kernel
set_option maxRecDepth 20000 in
theorem ggX7_paysFor_X7_pleatOf : GoodIn wsX7_paysFor wsX7_pleatOf := goodIn_r _ [6, 7, 8, 9, 5, 10, 11, 12, 13, 14, 36, 37, 38, 39, 40, 41, 42, 43, 44, 45, 46, 47, 48, 49, 50, 51, 52, 53, 54, 55, 56, 57, 58, 59, 60, 61, 62, 63, 64, 65] (by decide +kernel) (by decide +kernel)
set_option maxRecDepth 20000 in
theorem gX7_paysFor_X7_pleatOf : GoodIn wsX7_paysFor (wsV RX7 129 RX7 yX7_pleatOf wsX7_pleatOf) := goodIn_app (goodIn_of _ (by decide +kernel)) ggX7_paysFor_X7_pleatOf
set_option maxRecDepth 20000 in
theorem ggX7_paysFor_X7_paysOn : GoodIn wsX7_paysFor wsX7_paysOn := goodIn_r _ [18, 19, 1, 20, 21, 22, 5, 23, 24, 25, 26, 27, 28, 29, 30, 31, 32, 33, 34, 35, 36, 37, 38, 39, 40, 41, 42, 43, 44, 45, 46, 47, 48, 49, 50, 51, 52, 53, 54, 55, 56, 57, 58, 59, 60, 61, 62, 63, 64, 65] (by decide +kernel) (by decide +kernel)
set_option maxRecDepth 20000 in
theorem gX7_paysFor_X7_paysOn : GoodIn wsX7_paysFor (wsV RX7 133 RX7 yX7_paysOn wsX7_paysOn) := goodIn_app (goodIn_of _ (by decide +kernel)) ggX7_paysFor_X7_paysOn
theorem dX7_paysFor_0 : decode cX7_paysFor 0 = .ok (.aload_n 0, 1) := by decide +kernel
theorem dX7_paysFor_1 : decode cX7_paysFor 1 = .ok (.aload_n 0, 1) := by decide +kernel
theorem dX7_paysFor_2 : decode cX7_paysFor 2 = .ok (.getfield 22, 3) := by decide +kernel
theorem dX7_paysFor_5 : decode cX7_paysFor 5 = .ok (.iload_n 1, 1) := by decide +kernel
theorem dX7_paysFor_6 : decode cX7_paysFor 6 = .ok (.iaload, 1) := by decide +kernel
theorem dX7_paysFor_7 : decode cX7_paysFor 7 = .ok (.iload_n 2, 1) := by decide +kernel
theorem dX7_paysFor_8 : decode cX7_paysFor 8 = .ok (.invokevirtual 129, 3) := by decide +kernel
theorem dX7_paysFor_11 : decode cX7_paysFor 11 = .ok (.istore_n 3, 1) := by decide +kernel
theorem dX7_paysFor_12 : decode cX7_paysFor 12 = .ok (.iload_n 3, 1) := by decide +kernel
theorem dX7_paysFor_13 : decode cX7_paysFor 13 = .ok (.bipush (-9), 2) := by decide +kernel
theorem dX7_paysFor_15 : decode cX7_paysFor 15 = .ok (.if_icmp .ne 8, 3) := by decide +kernel
theorem dX7_paysFor_18 : decode cX7_paysFor 18 = .ok (.bipush (-9), 2) := by decide +kernel
theorem dX7_paysFor_20 : decode cX7_paysFor 20 = .ok (.goto 10, 3) := by decide +kernel
theorem dX7_paysFor_23 : decode cX7_paysFor 23 = .ok (.aload_n 0, 1) := by decide +kernel
theorem dX7_paysFor_24 : decode cX7_paysFor 24 = .ok (.iconst 0, 1) := by decide +kernel
theorem dX7_paysFor_25 : decode cX7_paysFor 25 = .ok (.iload_n 1, 1) := by decide +kernel
theorem dX7_paysFor_26 : decode cX7_paysFor 26 = .ok (.iload_n 3, 1) := by decide +kernel
theorem dX7_paysFor_27 : decode cX7_paysFor 27 = .ok (.invokevirtual 133, 3) := by decide +kernel
theorem dX7_paysFor_30 : decode cX7_paysFor 30 = .ok (.ireturn, 1) := by decide +kernel
set_option maxRecDepth 20000 in
theorem ggX7_traveller_X7_isTraveller : GoodIn wsX7_traveller wsX7_isTraveller := goodIn_r _ [8, 9, 10, 11, 7, 12, 46, 47, 48, 49, 50, 51, 52, 53, 54, 55, 56, 57, 58, 59, 60, 61, 62, 63, 64, 65, 66, 67, 68, 69, 70, 71, 72, 73, 74, 75] (by decide +kernel) (by decide +kernel)
set_option maxRecDepth 20000 in
theorem gX7_traveller_X7_isTraveller : GoodIn wsX7_traveller (wsV RX7 126 RX7 yX7_isTraveller wsX7_isTraveller) := goodIn_app (goodIn_of _ (by decide +kernel)) ggX7_traveller_X7_isTraveller
set_option maxRecDepth 20000 in
theorem ggX7_traveller_X7_paysFor : GoodIn wsX7_traveller wsX7_paysFor := goodIn_r _ [16, 1, 17, 18, 19, 7, 20, 21, 22, 23, 24, 25, 10, 11, 12, 26, 27, 28, 29, 3, 30, 31, 32, 33, 34, 35, 36, 37, 38, 39, 40, 41, 42, 43, 44, 45, 46, 47, 48, 49, 50, 51, 52, 53, 54, 55, 56, 57, 58, 59, 60, 61, 62, 63, 64, 65, 66, 67, 68, 69, 70, 71, 72, 73, 74, 75] (by decide +kernel) (by decide +kernel)
set_option maxRecDepth 20000 in
theorem gX7_traveller_X7_paysFor : GoodIn wsX7_traveller (wsV RX7 140 RX7 yX7_paysFor wsX7_paysFor) := goodIn_app (goodIn_of _ (by decide +kernel)) ggX7_traveller_X7_paysFor
theorem dX7_traveller_0 : decode cX7_traveller 0 = .ok (.aload_n 0, 1) := by decide +kernel
theorem dX7_traveller_1 : decode cX7_traveller 1 = .ok (.iload_n 1, 1) := by decide +kernel
theorem dX7_traveller_2 : decode cX7_traveller 2 = .ok (.invokevirtual 126, 3) := by decide +kernel
theorem dX7_traveller_5 : decode cX7_traveller 5 = .ok (.ifCond .ne 5, 3) := by decide +kernel
theorem dX7_traveller_8 : decode cX7_traveller 8 = .ok (.iconst (-1), 1) := by decide +kernel
theorem dX7_traveller_9 : decode cX7_traveller 9 = .ok (.ireturn, 1) := by decide +kernel
theorem dX7_traveller_10 : decode cX7_traveller 10 = .ok (.iload_n 2, 1) := by decide +kernel
theorem dX7_traveller_11 : decode cX7_traveller 11 = .ok (.tableswitch 81 0 5 #[37, 44, 51, 58, 67, 74], 37) := by decide +kernel
theorem dX7_traveller_48 : decode cX7_traveller 48 = .ok (.aload_n 0, 1) := by decide +kernel
theorem dX7_traveller_49 : decode cX7_traveller 49 = .ok (.getfield 22, 3) := by decide +kernel
theorem dX7_traveller_52 : decode cX7_traveller 52 = .ok (.iload_n 1, 1) := by decide +kernel
theorem dX7_traveller_53 : decode cX7_traveller 53 = .ok (.iaload, 1) := by decide +kernel
theorem dX7_traveller_54 : decode cX7_traveller 54 = .ok (.ireturn, 1) := by decide +kernel
theorem dX7_traveller_55 : decode cX7_traveller 55 = .ok (.aload_n 0, 1) := by decide +kernel
theorem dX7_traveller_56 : decode cX7_traveller 56 = .ok (.getfield 16, 3) := by decide +kernel
theorem dX7_traveller_59 : decode cX7_traveller 59 = .ok (.iload_n 1, 1) := by decide +kernel
theorem dX7_traveller_60 : decode cX7_traveller 60 = .ok (.iaload, 1) := by decide +kernel
theorem dX7_traveller_61 : decode cX7_traveller 61 = .ok (.ireturn, 1) := by decide +kernel
theorem dX7_traveller_62 : decode cX7_traveller 62 = .ok (.aload_n 0, 1) := by decide +kernel
theorem dX7_traveller_63 : decode cX7_traveller 63 = .ok (.getfield 19, 3) := by decide +kernel
theorem dX7_traveller_66 : decode cX7_traveller 66 = .ok (.iload_n 1, 1) := by decide +kernel
theorem dX7_traveller_67 : decode cX7_traveller 67 = .ok (.iaload, 1) := by decide +kernel
theorem dX7_traveller_68 : decode cX7_traveller 68 = .ok (.ireturn, 1) := by decide +kernel
theorem dX7_traveller_69 : decode cX7_traveller 69 = .ok (.aload_n 0, 1) := by decide +kernel
theorem dX7_traveller_70 : decode cX7_traveller 70 = .ok (.getfield 22, 3) := by decide +kernel
theorem dX7_traveller_73 : decode cX7_traveller 73 = .ok (.iconst 5, 1) := by decide +kernel
theorem dX7_traveller_74 : decode cX7_traveller 74 = .ok (.iload_n 1, 1) := by decide +kernel
theorem dX7_traveller_75 : decode cX7_traveller 75 = .ok (.iadd, 1) := by decide +kernel
theorem dX7_traveller_76 : decode cX7_traveller 76 = .ok (.iaload, 1) := by decide +kernel
theorem dX7_traveller_77 : decode cX7_traveller 77 = .ok (.ireturn, 1) := by decide +kernel
theorem dX7_traveller_78 : decode cX7_traveller 78 = .ok (.aload_n 0, 1) := by decide +kernel
theorem dX7_traveller_79 : decode cX7_traveller 79 = .ok (.iload_n 1, 1) := by decide +kernel
theorem dX7_traveller_80 : decode cX7_traveller 80 = .ok (.iconst 0, 1) := by decide +kernel
theorem dX7_traveller_81 : decode cX7_traveller 81 = .ok (.invokevirtual 140, 3) := by decide +kernel
theorem dX7_traveller_84 : decode cX7_traveller 84 = .ok (.ireturn, 1) := by decide +kernel
theorem dX7_traveller_85 : decode cX7_traveller 85 = .ok (.aload_n 0, 1) := by decide +kernel
theorem dX7_traveller_86 : decode cX7_traveller 86 = .ok (.iload_n 1, 1) := by decide +kernel
theorem dX7_traveller_87 : decode cX7_traveller 87 = .ok (.iconst 1, 1) := by decide +kernel
theorem dX7_traveller_88 : decode cX7_traveller 88 = .ok (.invokevirtual 140, 3) := by decide +kernel
theorem dX7_traveller_91 : decode cX7_traveller 91 = .ok (.ireturn, 1) := by decide +kernel
theorem dX7_traveller_92 : decode cX7_traveller 92 = .ok (.bipush (-2), 2) := by decide +kernel
theorem dX7_traveller_94 : decode cX7_traveller 94 = .ok (.ireturn, 1) := by decide +kernel
theorem dX7_keepAct_0 : decode cX7_keepAct 0 = .ok (.iconst 0, 1) := by decide +kernel
theorem dX7_keepAct_1 : decode cX7_keepAct 1 = .ok (.istore_n 1, 1) := by decide +kernel
theorem dX7_keepAct_2 : decode cX7_keepAct 2 = .ok (.iload_n 1, 1) := by decide +kernel
theorem dX7_keepAct_3 : decode cX7_keepAct 3 = .ok (.bipush 14, 2) := by decide +kernel
theorem dX7_keepAct_5 : decode cX7_keepAct 5 = .ok (.if_icmp .ge 29, 3) := by decide +kernel
theorem dX7_keepAct_8 : decode cX7_keepAct 8 = .ok (.aload_n 0, 1) := by decide +kernel
theorem dX7_keepAct_9 : decode cX7_keepAct 9 = .ok (.getfield 34, 3) := by decide +kernel
theorem dX7_keepAct_12 : decode cX7_keepAct 12 = .ok (.bipush 14, 2) := by decide +kernel
theorem dX7_keepAct_14 : decode cX7_keepAct 14 = .ok (.aload_n 0, 1) := by decide +kernel
theorem dX7_keepAct_15 : decode cX7_keepAct 15 = .ok (.getfield 143, 3) := by decide +kernel
theorem dX7_keepAct_18 : decode cX7_keepAct 18 = .ok (.imul, 1) := by decide +kernel
theorem dX7_keepAct_19 : decode cX7_keepAct 19 = .ok (.iload_n 1, 1) := by decide +kernel
theorem dX7_keepAct_20 : decode cX7_keepAct 20 = .ok (.iadd, 1) := by decide +kernel
theorem dX7_keepAct_21 : decode cX7_keepAct 21 = .ok (.aload_n 0, 1) := by decide +kernel
theorem dX7_keepAct_22 : decode cX7_keepAct 22 = .ok (.getfield 22, 3) := by decide +kernel
theorem dX7_keepAct_25 : decode cX7_keepAct 25 = .ok (.iload_n 1, 1) := by decide +kernel
theorem dX7_keepAct_26 : decode cX7_keepAct 26 = .ok (.iaload, 1) := by decide +kernel
theorem dX7_keepAct_27 : decode cX7_keepAct 27 = .ok (.iastore, 1) := by decide +kernel
theorem dX7_keepAct_28 : decode cX7_keepAct 28 = .ok (.iinc 1 1, 3) := by decide +kernel
theorem dX7_keepAct_31 : decode cX7_keepAct 31 = .ok (.goto (-29), 3) := by decide +kernel
theorem dX7_keepAct_34 : decode cX7_keepAct 34 = .ok (.aload_n 0, 1) := by decide +kernel
theorem dX7_keepAct_35 : decode cX7_keepAct 35 = .ok (.aload_n 0, 1) := by decide +kernel
theorem dX7_keepAct_36 : decode cX7_keepAct 36 = .ok (.getfield 143, 3) := by decide +kernel
theorem dX7_keepAct_39 : decode cX7_keepAct 39 = .ok (.iconst 1, 1) := by decide +kernel
theorem dX7_keepAct_40 : decode cX7_keepAct 40 = .ok (.iadd, 1) := by decide +kernel
theorem dX7_keepAct_41 : decode cX7_keepAct 41 = .ok (.bipush 14, 2) := by decide +kernel
theorem dX7_keepAct_43 : decode cX7_keepAct 43 = .ok (.irem, 1) := by decide +kernel
theorem dX7_keepAct_44 : decode cX7_keepAct 44 = .ok (.putfield 143, 3) := by decide +kernel
theorem dX7_keepAct_47 : decode cX7_keepAct 47 = .ok (.aload_n 0, 1) := by decide +kernel
theorem dX7_keepAct_48 : decode cX7_keepAct 48 = .ok (.aload_n 0, 1) := by decide +kernel
theorem dX7_keepAct_49 : decode cX7_keepAct 49 = .ok (.getfield 102, 3) := by decide +kernel
theorem dX7_keepAct_52 : decode cX7_keepAct 52 = .ok (.bipush 14, 2) := by decide +kernel
theorem dX7_keepAct_54 : decode cX7_keepAct 54 = .ok (.if_icmp .ge 12, 3) := by decide +kernel
theorem dX7_keepAct_57 : decode cX7_keepAct 57 = .ok (.aload_n 0, 1) := by decide +kernel
theorem dX7_keepAct_58 : decode cX7_keepAct 58 = .ok (.getfield 102, 3) := by decide +kernel
theorem dX7_keepAct_61 : decode cX7_keepAct 61 = .ok (.iconst 1, 1) := by decide +kernel
theorem dX7_keepAct_62 : decode cX7_keepAct 62 = .ok (.iadd, 1) := by decide +kernel
theorem dX7_keepAct_63 : decode cX7_keepAct 63 = .ok (.goto 5, 3) := by decide +kernel
theorem dX7_keepAct_66 : decode cX7_keepAct 66 = .ok (.bipush 14, 2) := by decide +kernel
theorem dX7_keepAct_68 : decode cX7_keepAct 68 = .ok (.putfield 102, 3) := by decide +kernel
theorem dX7_keepAct_71 : decode cX7_keepAct 71 = .ok (.return_, 1) := by decide +kernel
set_option maxRecDepth 20000 in
theorem ggX7_step_X7_isTraveller : GoodIn wsX7_step wsX7_isTraveller := goodIn_r _ [6, 7, 8, 9, 5, 10, 57, 58, 59, 60, 61, 62, 63, 64, 65, 66, 67, 68, 69, 70, 71, 72, 73, 74, 75, 76, 77, 78, 79, 80, 81, 82, 83, 84, 85, 86] (by decide +kernel) (by decide +kernel)
set_option maxRecDepth 20000 in
theorem gX7_step_X7_isTraveller : GoodIn wsX7_step (wsV RX7 126 RX7 yX7_isTraveller wsX7_isTraveller) := goodIn_app (goodIn_of _ (by decide +kernel)) ggX7_step_X7_isTraveller
set_option maxRecDepth 20000 in
theorem ggX7_step_X7_canStep : GoodIn wsX7_step wsX7_canStep := goodIn_r _ [14, 1, 2, 3, 4, 5, 6, 7, 8, 9, 10, 15, 16, 17, 18, 19, 20, 21, 22, 23, 24, 25, 26, 27, 28, 29, 30, 31, 32, 33, 34, 35, 36, 37, 38, 39, 40, 41, 42, 43, 44, 57, 58, 59, 60, 61, 62, 63, 64, 65, 66, 67, 68, 69, 70, 71, 72, 73, 74, 75, 76, 77, 78, 79, 80, 81, 82, 83, 84, 85, 86] (by decide +kernel) (by decide +kernel)
set_option maxRecDepth 20000 in
theorem gX7_step_X7_canStep : GoodIn wsX7_step (wsV RX7 146 RX7 yX7_canStep wsX7_canStep) := goodIn_app (goodIn_of _ (by decide +kernel)) ggX7_step_X7_canStep
set_option maxRecDepth 20000 in
theorem ggX7_step_X7_keepAct : GoodIn wsX7_step wsX7_keepAct := goodIn_r _ [48, 49, 50, 1, 51, 57, 58, 59, 60, 61, 62, 63, 64, 65, 66, 67, 68, 69, 70, 71, 72, 73, 74, 75, 76, 77, 78, 79, 80, 81, 82, 83, 84, 85, 86] (by decide +kernel) (by decide +kernel)
set_option maxRecDepth 20000 in
theorem gX7_step_X7_keepAct : GoodIn wsX7_step (wsV RX7 150 RX7 yX7_keepAct wsX7_keepAct) := goodIn_app (goodIn_of _ (by decide +kernel)) ggX7_step_X7_keepAct
set_option maxRecDepth 20000 in
theorem ggX7_step_X7_stepOn : GoodIn wsX7_step wsX7_stepOn := goodIn_r _ [55, 1, 34, 56, 28, 15, 16, 17, 5, 18, 19, 20, 21, 22, 23, 8, 9, 10, 24, 25, 26, 27, 29, 30, 31, 32, 33, 35, 36, 37, 38, 39, 40, 41, 42, 43, 44, 57, 58, 59, 60, 61, 62, 63, 64, 65, 66, 67, 68, 69, 70, 71, 72, 73, 74, 75, 76, 77, 78, 79, 80, 81, 82, 83, 84, 85, 86] (by decide +kernel) (by decide +kernel)
set_option maxRecDepth 20000 in
theorem gX7_step_X7_stepOn : GoodIn wsX7_step (wsV RX7 153 RX7 yX7_stepOn wsX7_stepOn) := goodIn_app (goodIn_of _ (by decide +kernel)) ggX7_step_X7_stepOn
theorem dX7_step_0 : decode cX7_step 0 = .ok (.aload_n 0, 1) := by decide +kernel
theorem dX7_step_1 : decode cX7_step 1 = .ok (.iload_n 1, 1) := by decide +kernel
theorem dX7_step_2 : decode cX7_step 2 = .ok (.invokevirtual 126, 3) := by decide +kernel
theorem dX7_step_5 : decode cX7_step 5 = .ok (.ifCond .ne 5, 3) := by decide +kernel
theorem dX7_step_8 : decode cX7_step 8 = .ok (.iconst (-1), 1) := by decide +kernel
theorem dX7_step_9 : decode cX7_step 9 = .ok (.ireturn, 1) := by decide +kernel
theorem dX7_step_10 : decode cX7_step 10 = .ok (.aload_n 0, 1) := by decide +kernel
theorem dX7_step_11 : decode cX7_step 11 = .ok (.iconst 0, 1) := by decide +kernel
theorem dX7_step_12 : decode cX7_step 12 = .ok (.iload_n 1, 1) := by decide +kernel
theorem dX7_step_13 : decode cX7_step 13 = .ok (.iload_n 2, 1) := by decide +kernel
theorem dX7_step_14 : decode cX7_step 14 = .ok (.invokevirtual 146, 3) := by decide +kernel
theorem dX7_step_17 : decode cX7_step 17 = .ok (.ifCond .ne 6, 3) := by decide +kernel
theorem dX7_step_20 : decode cX7_step 20 = .ok (.bipush (-3), 2) := by decide +kernel
theorem dX7_step_22 : decode cX7_step 22 = .ok (.ireturn, 1) := by decide +kernel
theorem dX7_step_23 : decode cX7_step 23 = .ok (.aload_n 0, 1) := by decide +kernel
theorem dX7_step_24 : decode cX7_step 24 = .ok (.invokevirtual 150, 3) := by decide +kernel
theorem dX7_step_27 : decode cX7_step 27 = .ok (.aload_n 0, 1) := by decide +kernel
theorem dX7_step_28 : decode cX7_step 28 = .ok (.iconst 0, 1) := by decide +kernel
theorem dX7_step_29 : decode cX7_step 29 = .ok (.iload_n 1, 1) := by decide +kernel
theorem dX7_step_30 : decode cX7_step 30 = .ok (.iload_n 2, 1) := by decide +kernel
theorem dX7_step_31 : decode cX7_step 31 = .ok (.invokevirtual 153, 3) := by decide +kernel
theorem dX7_step_34 : decode cX7_step 34 = .ok (.aload_n 0, 1) := by decide +kernel
theorem dX7_step_35 : decode cX7_step 35 = .ok (.getfield 22, 3) := by decide +kernel
theorem dX7_step_38 : decode cX7_step 38 = .ok (.iload_n 1, 1) := by decide +kernel
theorem dX7_step_39 : decode cX7_step 39 = .ok (.iaload, 1) := by decide +kernel
theorem dX7_step_40 : decode cX7_step 40 = .ok (.ireturn, 1) := by decide +kernel
set_option maxRecDepth 20000 in
theorem ggX7_rest_X7_isTraveller : GoodIn wsX7_rest wsX7_isTraveller := goodIn_r _ [6, 7, 8, 9, 5, 10, 30, 31, 32, 33, 34, 35, 36, 37, 38, 39, 40, 41, 42, 43, 44, 45, 46, 47, 48, 49, 50, 51, 52, 53, 54, 55, 56, 57, 58, 59] (by decide +kernel) (by decide +kernel)
set_option maxRecDepth 20000 in
theorem gX7_rest_X7_isTraveller : GoodIn wsX7_rest (wsV RX7 126 RX7 yX7_isTraveller wsX7_isTraveller) := goodIn_app (goodIn_of _ (by decide +kernel)) ggX7_rest_X7_isTraveller
set_option maxRecDepth 20000 in
theorem ggX7_rest_X7_keepAct : GoodIn wsX7_rest wsX7_keepAct := goodIn_r _ [14, 15, 16, 1, 17, 30, 31, 32, 33, 34, 35, 36, 37, 38, 39, 40, 41, 42, 43, 44, 45, 46, 47, 48, 49, 50, 51, 52, 53, 54, 55, 56, 57, 58, 59] (by decide +kernel) (by decide +kernel)
set_option maxRecDepth 20000 in
theorem gX7_rest_X7_keepAct : GoodIn wsX7_rest (wsV RX7 150 RX7 yX7_keepAct wsX7_keepAct) := goodIn_app (goodIn_of _ (by decide +kernel)) ggX7_rest_X7_keepAct
set_option maxRecDepth 20000 in
theorem ggX7_rest_X7_restOn : GoodIn wsX7_rest wsX7_restOn := goodIn_r _ [21, 1, 22, 23, 24, 5, 25, 26, 27, 28, 29, 30, 31, 32, 33, 34, 35, 36, 37, 38, 39, 40, 41, 42, 43, 44, 45, 46, 47, 48, 49, 50, 51, 52, 53, 54, 55, 56, 57, 58, 59] (by decide +kernel) (by decide +kernel)
set_option maxRecDepth 20000 in
theorem gX7_rest_X7_restOn : GoodIn wsX7_rest (wsV RX7 157 RX7 yX7_restOn wsX7_restOn) := goodIn_app (goodIn_of _ (by decide +kernel)) ggX7_rest_X7_restOn
theorem dX7_rest_0 : decode cX7_rest 0 = .ok (.aload_n 0, 1) := by decide +kernel
theorem dX7_rest_1 : decode cX7_rest 1 = .ok (.iload_n 1, 1) := by decide +kernel
theorem dX7_rest_2 : decode cX7_rest 2 = .ok (.invokevirtual 126, 3) := by decide +kernel
theorem dX7_rest_5 : decode cX7_rest 5 = .ok (.ifCond .ne 5, 3) := by decide +kernel
theorem dX7_rest_8 : decode cX7_rest 8 = .ok (.iconst (-1), 1) := by decide +kernel
theorem dX7_rest_9 : decode cX7_rest 9 = .ok (.ireturn, 1) := by decide +kernel
theorem dX7_rest_10 : decode cX7_rest 10 = .ok (.aload_n 0, 1) := by decide +kernel
theorem dX7_rest_11 : decode cX7_rest 11 = .ok (.invokevirtual 150, 3) := by decide +kernel
theorem dX7_rest_14 : decode cX7_rest 14 = .ok (.aload_n 0, 1) := by decide +kernel
theorem dX7_rest_15 : decode cX7_rest 15 = .ok (.iconst 0, 1) := by decide +kernel
theorem dX7_rest_16 : decode cX7_rest 16 = .ok (.iload_n 1, 1) := by decide +kernel
theorem dX7_rest_17 : decode cX7_rest 17 = .ok (.invokevirtual 157, 3) := by decide +kernel
theorem dX7_rest_20 : decode cX7_rest 20 = .ok (.aload_n 0, 1) := by decide +kernel
theorem dX7_rest_21 : decode cX7_rest 21 = .ok (.getfield 22, 3) := by decide +kernel
theorem dX7_rest_24 : decode cX7_rest 24 = .ok (.iconst 5, 1) := by decide +kernel
theorem dX7_rest_25 : decode cX7_rest 25 = .ok (.iload_n 1, 1) := by decide +kernel
theorem dX7_rest_26 : decode cX7_rest 26 = .ok (.iadd, 1) := by decide +kernel
theorem dX7_rest_27 : decode cX7_rest 27 = .ok (.iaload, 1) := by decide +kernel
theorem dX7_rest_28 : decode cX7_rest 28 = .ok (.ireturn, 1) := by decide +kernel
set_option maxRecDepth 20000 in
theorem ggX7_grease_X7_isPleat : GoodIn wsX7_grease wsX7_isPleat := goodIn_r _ [6, 7, 8, 9, 5, 10, 31, 32, 33, 34, 35, 36, 37, 38, 39, 40, 41, 42, 43, 44, 45, 46, 47, 48, 49, 50, 51, 52, 53, 54, 55, 56, 57, 58, 59, 60] (by decide +kernel) (by decide +kernel)
set_option maxRecDepth 20000 in
theorem gX7_grease_X7_isPleat : GoodIn wsX7_grease (wsV RX7 122 RX7 yX7_isPleat wsX7_isPleat) := goodIn_app (goodIn_of _ (by decide +kernel)) ggX7_grease_X7_isPleat
set_option maxRecDepth 20000 in
theorem ggX7_grease_X7_has : GoodIn wsX7_grease wsX7_has := goodIn_r _ [13] (by decide +kernel) (by decide +kernel)
set_option maxRecDepth 20000 in
theorem gX7_grease_X7_has : GoodIn wsX7_grease (va_wsS RX7 108 yX7_has wsX7_has) := goodIn_app (goodIn_of _ (by decide +kernel)) ggX7_grease_X7_has
set_option maxRecDepth 20000 in
theorem ggX7_grease_X7_keepAct : GoodIn wsX7_grease wsX7_keepAct := goodIn_r _ [17, 18, 19, 1, 20, 31, 32, 33, 34, 35, 36, 37, 38, 39, 40, 41, 42, 43, 44, 45, 46, 47, 48, 49, 50, 51, 52, 53, 54, 55, 56, 57, 58, 59, 60] (by decide +kernel) (by decide +kernel)
set_option maxRecDepth 20000 in
theorem gX7_grease_X7_keepAct : GoodIn wsX7_grease (wsV RX7 150 RX7 yX7_keepAct wsX7_keepAct) := goodIn_app (goodIn_of _ (by decide +kernel)) ggX7_grease_X7_keepAct
set_option maxRecDepth 20000 in
theorem ggX7_grease_X7_costs : GoodIn wsX7_grease wsX7_costs := goodIn_r _ [24, 25, 26, 27, 11, 12, 5, 13, 28, 29, 30, 31, 32, 33, 34, 35, 36, 37, 38, 39, 40, 41, 42, 43, 44, 45, 46, 47, 48, 49, 50, 51, 52, 53, 54, 55, 56, 57, 58, 59, 60] (by decide +kernel) (by decide +kernel)
set_option maxRecDepth 20000 in
theorem gX7_grease_X7_costs : GoodIn wsX7_grease (wsV RX7 115 RX7 yX7_costs wsX7_costs) := goodIn_app (goodIn_of _ (by decide +kernel)) ggX7_grease_X7_costs
theorem dX7_grease_0 : decode cX7_grease 0 = .ok (.aload_n 0, 1) := by decide +kernel
theorem dX7_grease_1 : decode cX7_grease 1 = .ok (.iload_n 1, 1) := by decide +kernel
theorem dX7_grease_2 : decode cX7_grease 2 = .ok (.invokevirtual 122, 3) := by decide +kernel
theorem dX7_grease_5 : decode cX7_grease 5 = .ok (.ifCond .ne 5, 3) := by decide +kernel
theorem dX7_grease_8 : decode cX7_grease 8 = .ok (.iconst (-1), 1) := by decide +kernel
theorem dX7_grease_9 : decode cX7_grease 9 = .ok (.ireturn, 1) := by decide +kernel
theorem dX7_grease_10 : decode cX7_grease 10 = .ok (.aload_n 0, 1) := by decide +kernel
theorem dX7_grease_11 : decode cX7_grease 11 = .ok (.getfield 22, 3) := by decide +kernel
theorem dX7_grease_14 : decode cX7_grease 14 = .ok (.bipush 10, 2) := by decide +kernel
theorem dX7_grease_16 : decode cX7_grease 16 = .ok (.iaload, 1) := by decide +kernel
theorem dX7_grease_17 : decode cX7_grease 17 = .ok (.iload_n 1, 1) := by decide +kernel
theorem dX7_grease_18 : decode cX7_grease 18 = .ok (.invokestatic 108, 3) := by decide +kernel
theorem dX7_grease_21 : decode cX7_grease 21 = .ok (.ifCond .eq 6, 3) := by decide +kernel
theorem dX7_grease_24 : decode cX7_grease 24 = .ok (.bipush (-3), 2) := by decide +kernel
theorem dX7_grease_26 : decode cX7_grease 26 = .ok (.ireturn, 1) := by decide +kernel
theorem dX7_grease_27 : decode cX7_grease 27 = .ok (.aload_n 0, 1) := by decide +kernel
theorem dX7_grease_28 : decode cX7_grease 28 = .ok (.invokevirtual 150, 3) := by decide +kernel
theorem dX7_grease_31 : decode cX7_grease 31 = .ok (.aload_n 0, 1) := by decide +kernel
theorem dX7_grease_32 : decode cX7_grease 32 = .ok (.getfield 22, 3) := by decide +kernel
theorem dX7_grease_35 : decode cX7_grease 35 = .ok (.bipush 10, 2) := by decide +kernel
theorem dX7_grease_37 : decode cX7_grease 37 = .ok (.dup2, 1) := by decide +kernel
theorem dX7_grease_38 : decode cX7_grease 38 = .ok (.iaload, 1) := by decide +kernel
theorem dX7_grease_39 : decode cX7_grease 39 = .ok (.iconst 1, 1) := by decide +kernel
theorem dX7_grease_40 : decode cX7_grease 40 = .ok (.iload_n 1, 1) := by decide +kernel
theorem dX7_grease_41 : decode cX7_grease 41 = .ok (.ishl, 1) := by decide +kernel
theorem dX7_grease_42 : decode cX7_grease 42 = .ok (.ior, 1) := by decide +kernel
theorem dX7_grease_43 : decode cX7_grease 43 = .ok (.iastore, 1) := by decide +kernel
theorem dX7_grease_44 : decode cX7_grease 44 = .ok (.aload_n 0, 1) := by decide +kernel
theorem dX7_grease_45 : decode cX7_grease 45 = .ok (.iload_n 1, 1) := by decide +kernel
theorem dX7_grease_46 : decode cX7_grease 46 = .ok (.aload_n 0, 1) := by decide +kernel
theorem dX7_grease_47 : decode cX7_grease 47 = .ok (.getfield 22, 3) := by decide +kernel
theorem dX7_grease_50 : decode cX7_grease 50 = .ok (.bipush 11, 2) := by decide +kernel
theorem dX7_grease_52 : decode cX7_grease 52 = .ok (.iaload, 1) := by decide +kernel
theorem dX7_grease_53 : decode cX7_grease 53 = .ok (.aload_n 0, 1) := by decide +kernel
theorem dX7_grease_54 : decode cX7_grease 54 = .ok (.getfield 22, 3) := by decide +kernel
theorem dX7_grease_57 : decode cX7_grease 57 = .ok (.bipush 10, 2) := by decide +kernel
theorem dX7_grease_59 : decode cX7_grease 59 = .ok (.iaload, 1) := by decide +kernel
theorem dX7_grease_60 : decode cX7_grease 60 = .ok (.aload_n 0, 1) := by decide +kernel
theorem dX7_grease_61 : decode cX7_grease 61 = .ok (.getfield 22, 3) := by decide +kernel
theorem dX7_grease_64 : decode cX7_grease 64 = .ok (.bipush 12, 2) := by decide +kernel
theorem dX7_grease_66 : decode cX7_grease 66 = .ok (.iaload, 1) := by decide +kernel
theorem dX7_grease_67 : decode cX7_grease 67 = .ok (.invokevirtual 115, 3) := by decide +kernel
theorem dX7_grease_70 : decode cX7_grease 70 = .ok (.ireturn, 1) := by decide +kernel
set_option maxRecDepth 20000 in
theorem ggX7_freeze_X7_keepAct : GoodIn wsX7_freeze wsX7_keepAct := goodIn_r _ [6, 7, 8, 1, 9, 10, 11, 12, 13, 14, 15, 16, 17, 18, 19, 20, 21, 22, 23, 24, 25, 26, 27, 28, 29, 30, 31, 32, 33, 34, 35, 36, 37, 38, 39] (by decide +kernel) (by decide +kernel)
set_option maxRecDepth 20000 in
theorem gX7_freeze_X7_keepAct : GoodIn wsX7_freeze (wsV RX7 150 RX7 yX7_keepAct wsX7_keepAct) := goodIn_app (goodIn_of _ (by decide +kernel)) ggX7_freeze_X7_keepAct
theorem dX7_freeze_0 : decode cX7_freeze 0 = .ok (.aload_n 0, 1) := by decide +kernel
theorem dX7_freeze_1 : decode cX7_freeze 1 = .ok (.getfield 22, 3) := by decide +kernel
theorem dX7_freeze_4 : decode cX7_freeze 4 = .ok (.bipush 12, 2) := by decide +kernel
theorem dX7_freeze_6 : decode cX7_freeze 6 = .ok (.iaload, 1) := by decide +kernel
theorem dX7_freeze_7 : decode cX7_freeze 7 = .ok (.iconst 5, 1) := by decide +kernel
theorem dX7_freeze_8 : decode cX7_freeze 8 = .ok (.if_icmp .ne 6, 3) := by decide +kernel
theorem dX7_freeze_11 : decode cX7_freeze 11 = .ok (.bipush (-3), 2) := by decide +kernel
theorem dX7_freeze_13 : decode cX7_freeze 13 = .ok (.ireturn, 1) := by decide +kernel
theorem dX7_freeze_14 : decode cX7_freeze 14 = .ok (.aload_n 0, 1) := by decide +kernel
theorem dX7_freeze_15 : decode cX7_freeze 15 = .ok (.invokevirtual 150, 3) := by decide +kernel
theorem dX7_freeze_18 : decode cX7_freeze 18 = .ok (.aload_n 0, 1) := by decide +kernel
theorem dX7_freeze_19 : decode cX7_freeze 19 = .ok (.getfield 22, 3) := by decide +kernel
theorem dX7_freeze_22 : decode cX7_freeze 22 = .ok (.bipush 12, 2) := by decide +kernel
theorem dX7_freeze_24 : decode cX7_freeze 24 = .ok (.dup2, 1) := by decide +kernel
theorem dX7_freeze_25 : decode cX7_freeze 25 = .ok (.iaload, 1) := by decide +kernel
theorem dX7_freeze_26 : decode cX7_freeze 26 = .ok (.iconst 1, 1) := by decide +kernel
theorem dX7_freeze_27 : decode cX7_freeze 27 = .ok (.iadd, 1) := by decide +kernel
theorem dX7_freeze_28 : decode cX7_freeze 28 = .ok (.iastore, 1) := by decide +kernel
theorem dX7_freeze_29 : decode cX7_freeze 29 = .ok (.aload_n 0, 1) := by decide +kernel
theorem dX7_freeze_30 : decode cX7_freeze 30 = .ok (.getfield 22, 3) := by decide +kernel
theorem dX7_freeze_33 : decode cX7_freeze 33 = .ok (.bipush 12, 2) := by decide +kernel
theorem dX7_freeze_35 : decode cX7_freeze 35 = .ok (.iaload, 1) := by decide +kernel
theorem dX7_freeze_36 : decode cX7_freeze 36 = .ok (.ireturn, 1) := by decide +kernel
set_option maxRecDepth 20000 in
theorem ggX7_thaw_X7_keepAct : GoodIn wsX7_thaw wsX7_keepAct := goodIn_r _ [6, 7, 8, 1, 9, 10, 11, 12, 13, 14, 15, 16, 17, 18, 19, 20, 21, 22, 23, 24, 25, 26, 27, 28, 29, 30, 31, 32, 33, 34, 35, 36, 37, 38, 39] (by decide +kernel) (by decide +kernel)
set_option maxRecDepth 20000 in
theorem gX7_thaw_X7_keepAct : GoodIn wsX7_thaw (wsV RX7 150 RX7 yX7_keepAct wsX7_keepAct) := goodIn_app (goodIn_of _ (by decide +kernel)) ggX7_thaw_X7_keepAct
theorem dX7_thaw_0 : decode cX7_thaw 0 = .ok (.aload_n 0, 1) := by decide +kernel
theorem dX7_thaw_1 : decode cX7_thaw 1 = .ok (.getfield 22, 3) := by decide +kernel
theorem dX7_thaw_4 : decode cX7_thaw 4 = .ok (.bipush 12, 2) := by decide +kernel
theorem dX7_thaw_6 : decode cX7_thaw 6 = .ok (.iaload, 1) := by decide +kernel
theorem dX7_thaw_7 : decode cX7_thaw 7 = .ok (.ifCond .ne 6, 3) := by decide +kernel
theorem dX7_thaw_10 : decode cX7_thaw 10 = .ok (.bipush (-3), 2) := by decide +kernel
theorem dX7_thaw_12 : decode cX7_thaw 12 = .ok (.ireturn, 1) := by decide +kernel
theorem dX7_thaw_13 : decode cX7_thaw 13 = .ok (.aload_n 0, 1) := by decide +kernel
theorem dX7_thaw_14 : decode cX7_thaw 14 = .ok (.invokevirtual 150, 3) := by decide +kernel
theorem dX7_thaw_17 : decode cX7_thaw 17 = .ok (.aload_n 0, 1) := by decide +kernel
theorem dX7_thaw_18 : decode cX7_thaw 18 = .ok (.getfield 22, 3) := by decide +kernel
theorem dX7_thaw_21 : decode cX7_thaw 21 = .ok (.bipush 12, 2) := by decide +kernel
theorem dX7_thaw_23 : decode cX7_thaw 23 = .ok (.iaload, 1) := by decide +kernel
theorem dX7_thaw_24 : decode cX7_thaw 24 = .ok (.istore_n 1, 1) := by decide +kernel
theorem dX7_thaw_25 : decode cX7_thaw 25 = .ok (.aload_n 0, 1) := by decide +kernel
theorem dX7_thaw_26 : decode cX7_thaw 26 = .ok (.getfield 22, 3) := by decide +kernel
theorem dX7_thaw_29 : decode cX7_thaw 29 = .ok (.bipush 12, 2) := by decide +kernel
theorem dX7_thaw_31 : decode cX7_thaw 31 = .ok (.iconst 0, 1) := by decide +kernel
theorem dX7_thaw_32 : decode cX7_thaw 32 = .ok (.iastore, 1) := by decide +kernel
theorem dX7_thaw_33 : decode cX7_thaw 33 = .ok (.iload_n 1, 1) := by decide +kernel
theorem dX7_thaw_34 : decode cX7_thaw 34 = .ok (.ireturn, 1) := by decide +kernel
theorem dX7_undo_0 : decode cX7_undo 0 = .ok (.aload_n 0, 1) := by decide +kernel
theorem dX7_undo_1 : decode cX7_undo 1 = .ok (.getfield 102, 3) := by decide +kernel
theorem dX7_undo_4 : decode cX7_undo 4 = .ok (.ifCond .ne 6, 3) := by decide +kernel
theorem dX7_undo_7 : decode cX7_undo 7 = .ok (.bipush (-3), 2) := by decide +kernel
theorem dX7_undo_9 : decode cX7_undo 9 = .ok (.ireturn, 1) := by decide +kernel
theorem dX7_undo_10 : decode cX7_undo 10 = .ok (.aload_n 0, 1) := by decide +kernel
theorem dX7_undo_11 : decode cX7_undo 11 = .ok (.dup, 1) := by decide +kernel
theorem dX7_undo_12 : decode cX7_undo 12 = .ok (.getfield 102, 3) := by decide +kernel
theorem dX7_undo_15 : decode cX7_undo 15 = .ok (.iconst 1, 1) := by decide +kernel
theorem dX7_undo_16 : decode cX7_undo 16 = .ok (.isub, 1) := by decide +kernel
theorem dX7_undo_17 : decode cX7_undo 17 = .ok (.putfield 102, 3) := by decide +kernel
theorem dX7_undo_20 : decode cX7_undo 20 = .ok (.aload_n 0, 1) := by decide +kernel
theorem dX7_undo_21 : decode cX7_undo 21 = .ok (.aload_n 0, 1) := by decide +kernel
theorem dX7_undo_22 : decode cX7_undo 22 = .ok (.getfield 143, 3) := by decide +kernel
theorem dX7_undo_25 : decode cX7_undo 25 = .ok (.bipush 13, 2) := by decide +kernel
theorem dX7_undo_27 : decode cX7_undo 27 = .ok (.iadd, 1) := by decide +kernel
theorem dX7_undo_28 : decode cX7_undo 28 = .ok (.bipush 14, 2) := by decide +kernel
theorem dX7_undo_30 : decode cX7_undo 30 = .ok (.irem, 1) := by decide +kernel
theorem dX7_undo_31 : decode cX7_undo 31 = .ok (.putfield 143, 3) := by decide +kernel
theorem dX7_undo_34 : decode cX7_undo 34 = .ok (.iconst 0, 1) := by decide +kernel
theorem dX7_undo_35 : decode cX7_undo 35 = .ok (.istore_n 1, 1) := by decide +kernel
theorem dX7_undo_36 : decode cX7_undo 36 = .ok (.iload_n 1, 1) := by decide +kernel
theorem dX7_undo_37 : decode cX7_undo 37 = .ok (.bipush 14, 2) := by decide +kernel
theorem dX7_undo_39 : decode cX7_undo 39 = .ok (.if_icmp .ge 29, 3) := by decide +kernel
theorem dX7_undo_42 : decode cX7_undo 42 = .ok (.aload_n 0, 1) := by decide +kernel
theorem dX7_undo_43 : decode cX7_undo 43 = .ok (.getfield 22, 3) := by decide +kernel
theorem dX7_undo_46 : decode cX7_undo 46 = .ok (.iload_n 1, 1) := by decide +kernel
theorem dX7_undo_47 : decode cX7_undo 47 = .ok (.aload_n 0, 1) := by decide +kernel
theorem dX7_undo_48 : decode cX7_undo 48 = .ok (.getfield 34, 3) := by decide +kernel
theorem dX7_undo_51 : decode cX7_undo 51 = .ok (.bipush 14, 2) := by decide +kernel
theorem dX7_undo_53 : decode cX7_undo 53 = .ok (.aload_n 0, 1) := by decide +kernel
theorem dX7_undo_54 : decode cX7_undo 54 = .ok (.getfield 143, 3) := by decide +kernel
theorem dX7_undo_57 : decode cX7_undo 57 = .ok (.imul, 1) := by decide +kernel
theorem dX7_undo_58 : decode cX7_undo 58 = .ok (.iload_n 1, 1) := by decide +kernel
theorem dX7_undo_59 : decode cX7_undo 59 = .ok (.iadd, 1) := by decide +kernel
theorem dX7_undo_60 : decode cX7_undo 60 = .ok (.iaload, 1) := by decide +kernel
theorem dX7_undo_61 : decode cX7_undo 61 = .ok (.iastore, 1) := by decide +kernel
theorem dX7_undo_62 : decode cX7_undo 62 = .ok (.iinc 1 1, 3) := by decide +kernel
theorem dX7_undo_65 : decode cX7_undo 65 = .ok (.goto (-29), 3) := by decide +kernel
theorem dX7_undo_68 : decode cX7_undo 68 = .ok (.aload_n 0, 1) := by decide +kernel
theorem dX7_undo_69 : decode cX7_undo 69 = .ok (.getfield 102, 3) := by decide +kernel
theorem dX7_undo_72 : decode cX7_undo 72 = .ok (.ireturn, 1) := by decide +kernel
theorem dX7_meetState_0 : decode cX7_meetState 0 = .ok (.bipush 110, 2) := by decide +kernel
theorem dX7_meetState_2 : decode cX7_meetState 2 = .ok (.iload_n 1, 1) := by decide +kernel
theorem dX7_meetState_3 : decode cX7_meetState 3 = .ok (.imul, 1) := by decide +kernel
theorem dX7_meetState_4 : decode cX7_meetState 4 = .ok (.bipush 11, 2) := by decide +kernel
theorem dX7_meetState_6 : decode cX7_meetState 6 = .ok (.iload_n 2, 1) := by decide +kernel
theorem dX7_meetState_7 : decode cX7_meetState 7 = .ok (.imul, 1) := by decide +kernel
theorem dX7_meetState_8 : decode cX7_meetState 8 = .ok (.iadd, 1) := by decide +kernel
theorem dX7_meetState_9 : decode cX7_meetState 9 = .ok (.iload_n 3, 1) := by decide +kernel
theorem dX7_meetState_10 : decode cX7_meetState 10 = .ok (.iadd, 1) := by decide +kernel
theorem dX7_meetState_11 : decode cX7_meetState 11 = .ok (.istore 5, 2) := by decide +kernel
theorem dX7_meetState_13 : decode cX7_meetState 13 = .ok (.aload_n 0, 1) := by decide +kernel
theorem dX7_meetState_14 : decode cX7_meetState 14 = .ok (.getfield 37, 3) := by decide +kernel
theorem dX7_meetState_17 : decode cX7_meetState 17 = .ok (.iload 5, 2) := by decide +kernel
theorem dX7_meetState_19 : decode cX7_meetState 19 = .ok (.iaload, 1) := by decide +kernel
theorem dX7_meetState_20 : decode cX7_meetState 20 = .ok (.bipush (-9), 2) := by decide +kernel
theorem dX7_meetState_22 : decode cX7_meetState 22 = .ok (.if_icmp .ne 33, 3) := by decide +kernel
theorem dX7_meetState_25 : decode cX7_meetState 25 = .ok (.aload_n 0, 1) := by decide +kernel
theorem dX7_meetState_26 : decode cX7_meetState 26 = .ok (.getfield 37, 3) := by decide +kernel
theorem dX7_meetState_29 : decode cX7_meetState 29 = .ok (.iload 5, 2) := by decide +kernel
theorem dX7_meetState_31 : decode cX7_meetState 31 = .ok (.iload 4, 2) := by decide +kernel
theorem dX7_meetState_33 : decode cX7_meetState 33 = .ok (.iastore, 1) := by decide +kernel
theorem dX7_meetState_34 : decode cX7_meetState 34 = .ok (.aload_n 0, 1) := by decide +kernel
theorem dX7_meetState_35 : decode cX7_meetState 35 = .ok (.getfield 40, 3) := by decide +kernel
theorem dX7_meetState_38 : decode cX7_meetState 38 = .ok (.aload_n 0, 1) := by decide +kernel
theorem dX7_meetState_39 : decode cX7_meetState 39 = .ok (.getfield 161, 3) := by decide +kernel
theorem dX7_meetState_42 : decode cX7_meetState 42 = .ok (.iload 5, 2) := by decide +kernel
theorem dX7_meetState_44 : decode cX7_meetState 44 = .ok (.iastore, 1) := by decide +kernel
theorem dX7_meetState_45 : decode cX7_meetState 45 = .ok (.aload_n 0, 1) := by decide +kernel
theorem dX7_meetState_46 : decode cX7_meetState 46 = .ok (.dup, 1) := by decide +kernel
theorem dX7_meetState_47 : decode cX7_meetState 47 = .ok (.getfield 161, 3) := by decide +kernel
theorem dX7_meetState_50 : decode cX7_meetState 50 = .ok (.iconst 1, 1) := by decide +kernel
theorem dX7_meetState_51 : decode cX7_meetState 51 = .ok (.iadd, 1) := by decide +kernel
theorem dX7_meetState_52 : decode cX7_meetState 52 = .ok (.putfield 161, 3) := by decide +kernel
theorem dX7_meetState_55 : decode cX7_meetState 55 = .ok (.return_, 1) := by decide +kernel
set_option maxRecDepth 20000 in
theorem ggX7_goFrom_X7_pleatOf : GoodIn wsX7_goFrom wsX7_pleatOf := goodIn_r _ [11, 12, 13, 14, 10, 15, 16, 17, 18, 19, 41, 42, 43, 44, 45, 46, 47, 48, 49, 50, 51, 52, 53, 54, 55, 56, 57, 58, 59, 60, 61, 62, 63, 64, 65, 66, 67, 68, 69, 70] (by decide +kernel) (by decide +kernel)
set_option maxRecDepth 20000 in
theorem gX7_goFrom_X7_pleatOf : GoodIn wsX7_goFrom (wsV RX7 129 RX7 yX7_pleatOf wsX7_pleatOf) := goodIn_app (goodIn_of _ (by decide +kernel)) ggX7_goFrom_X7_pleatOf
set_option maxRecDepth 20000 in
theorem ggX7_goFrom_X7_costs : GoodIn wsX7_goFrom wsX7_costs := goodIn_r _ [23, 24, 4, 25, 26, 27, 10, 28, 29, 30, 31, 41, 42, 43, 44, 45, 46, 47, 48, 49, 50, 51, 52, 53, 54, 55, 56, 57, 58, 59, 60, 61, 62, 63, 64, 65, 66, 67, 68, 69, 70] (by decide +kernel) (by decide +kernel)
set_option maxRecDepth 20000 in
theorem gX7_goFrom_X7_costs : GoodIn wsX7_goFrom (wsV RX7 115 RX7 yX7_costs wsX7_costs) := goodIn_app (goodIn_of _ (by decide +kernel)) ggX7_goFrom_X7_costs
set_option maxRecDepth 20000 in
theorem ggX7_goFrom_X7_pays : GoodIn wsX7_goFrom wsX7_pays := goodIn_r _ [34] (by decide +kernel) (by decide +kernel)
set_option maxRecDepth 20000 in
theorem gX7_goFrom_X7_pays : GoodIn wsX7_goFrom (va_wsS RX7 119 yX7_pays wsX7_pays) := goodIn_app (goodIn_of _ (by decide +kernel)) ggX7_goFrom_X7_pays
set_option maxRecDepth 20000 in
theorem ggX7_goFrom_X7_meetState : GoodIn wsX7_goFrom wsX7_meetState := goodIn_r _ [38, 6, 39, 40, 41, 42, 43, 44, 45, 46, 47, 48, 49, 50, 51, 52, 53, 54, 55, 56, 57, 58, 59, 60, 61, 62, 63, 64, 65, 66, 67, 68, 69, 70] (by decide +kernel) (by decide +kernel)
set_option maxRecDepth 20000 in
theorem gX7_goFrom_X7_meetState : GoodIn wsX7_goFrom (wsV RX7 167 RX7 yX7_meetState wsX7_meetState) := goodIn_app (goodIn_of _ (by decide +kernel)) ggX7_goFrom_X7_meetState
theorem dX7_goFrom_0 : decode cX7_goFrom 0 = .ok (.iload_n 3, 1) := by decide +kernel
theorem dX7_goFrom_1 : decode cX7_goFrom 1 = .ok (.bipush 110, 2) := by decide +kernel
theorem dX7_goFrom_3 : decode cX7_goFrom 3 = .ok (.idiv, 1) := by decide +kernel
theorem dX7_goFrom_4 : decode cX7_goFrom 4 = .ok (.istore 5, 2) := by decide +kernel
theorem dX7_goFrom_6 : decode cX7_goFrom 6 = .ok (.iload_n 3, 1) := by decide +kernel
theorem dX7_goFrom_7 : decode cX7_goFrom 7 = .ok (.bipush 11, 2) := by decide +kernel
theorem dX7_goFrom_9 : decode cX7_goFrom 9 = .ok (.idiv, 1) := by decide +kernel
theorem dX7_goFrom_10 : decode cX7_goFrom 10 = .ok (.bipush 10, 2) := by decide +kernel
theorem dX7_goFrom_12 : decode cX7_goFrom 12 = .ok (.irem, 1) := by decide +kernel
theorem dX7_goFrom_13 : decode cX7_goFrom 13 = .ok (.istore 6, 2) := by decide +kernel
theorem dX7_goFrom_15 : decode cX7_goFrom 15 = .ok (.aload_n 0, 1) := by decide +kernel
theorem dX7_goFrom_16 : decode cX7_goFrom 16 = .ok (.iload 5, 2) := by decide +kernel
theorem dX7_goFrom_18 : decode cX7_goFrom 18 = .ok (.iload 4, 2) := by decide +kernel
theorem dX7_goFrom_20 : decode cX7_goFrom 20 = .ok (.invokevirtual 129, 3) := by decide +kernel
theorem dX7_goFrom_23 : decode cX7_goFrom 23 = .ok (.istore 7, 2) := by decide +kernel
theorem dX7_goFrom_25 : decode cX7_goFrom 25 = .ok (.iload 7, 2) := by decide +kernel
theorem dX7_goFrom_27 : decode cX7_goFrom 27 = .ok (.bipush (-9), 2) := by decide +kernel
theorem dX7_goFrom_29 : decode cX7_goFrom 29 = .ok (.if_icmp .ne 8, 3) := by decide +kernel
theorem dX7_goFrom_32 : decode cX7_goFrom 32 = .ok (.bipush 10, 2) := by decide +kernel
theorem dX7_goFrom_34 : decode cX7_goFrom 34 = .ok (.goto 38, 3) := by decide +kernel
theorem dX7_goFrom_37 : decode cX7_goFrom 37 = .ok (.aload_n 0, 1) := by decide +kernel
theorem dX7_goFrom_38 : decode cX7_goFrom 38 = .ok (.getfield 19, 3) := by decide +kernel
theorem dX7_goFrom_41 : decode cX7_goFrom 41 = .ok (.iload_n 2, 1) := by decide +kernel
theorem dX7_goFrom_42 : decode cX7_goFrom 42 = .ok (.iaload, 1) := by decide +kernel
theorem dX7_goFrom_43 : decode cX7_goFrom 43 = .ok (.aload_n 0, 1) := by decide +kernel
theorem dX7_goFrom_44 : decode cX7_goFrom 44 = .ok (.iload 7, 2) := by decide +kernel
theorem dX7_goFrom_46 : decode cX7_goFrom 46 = .ok (.iload_n 3, 1) := by decide +kernel
theorem dX7_goFrom_47 : decode cX7_goFrom 47 = .ok (.bipush 11, 2) := by decide +kernel
theorem dX7_goFrom_49 : decode cX7_goFrom 49 = .ok (.irem, 1) := by decide +kernel
theorem dX7_goFrom_50 : decode cX7_goFrom 50 = .ok (.aload_n 0, 1) := by decide +kernel
theorem dX7_goFrom_51 : decode cX7_goFrom 51 = .ok (.getfield 164, 3) := by decide +kernel
theorem dX7_goFrom_54 : decode cX7_goFrom 54 = .ok (.aload_n 0, 1) := by decide +kernel
theorem dX7_goFrom_55 : decode cX7_goFrom 55 = .ok (.getfield 22, 3) := by decide +kernel
theorem dX7_goFrom_58 : decode cX7_goFrom 58 = .ok (.bipush 14, 2) := by decide +kernel
theorem dX7_goFrom_60 : decode cX7_goFrom 60 = .ok (.iload_n 1, 1) := by decide +kernel
theorem dX7_goFrom_61 : decode cX7_goFrom 61 = .ok (.imul, 1) := by decide +kernel
theorem dX7_goFrom_62 : decode cX7_goFrom 62 = .ok (.bipush 12, 2) := by decide +kernel
theorem dX7_goFrom_64 : decode cX7_goFrom 64 = .ok (.iadd, 1) := by decide +kernel
theorem dX7_goFrom_65 : decode cX7_goFrom 65 = .ok (.iaload, 1) := by decide +kernel
theorem dX7_goFrom_66 : decode cX7_goFrom 66 = .ok (.invokevirtual 115, 3) := by decide +kernel
theorem dX7_goFrom_69 : decode cX7_goFrom 69 = .ok (.invokestatic 119, 3) := by decide +kernel
theorem dX7_goFrom_72 : decode cX7_goFrom 72 = .ok (.istore 8, 2) := by decide +kernel
theorem dX7_goFrom_74 : decode cX7_goFrom 74 = .ok (.iload 8, 2) := by decide +kernel
theorem dX7_goFrom_76 : decode cX7_goFrom 76 = .ok (.iload 6, 2) := by decide +kernel
theorem dX7_goFrom_78 : decode cX7_goFrom 78 = .ok (.if_icmp .gt 74, 3) := by decide +kernel
theorem dX7_goFrom_81 : decode cX7_goFrom 81 = .ok (.aload_n 0, 1) := by decide +kernel
theorem dX7_goFrom_82 : decode cX7_goFrom 82 = .ok (.iload 4, 2) := by decide +kernel
theorem dX7_goFrom_84 : decode cX7_goFrom 84 = .ok (.ifCond .eq 10, 3) := by decide +kernel
theorem dX7_goFrom_87 : decode cX7_goFrom 87 = .ok (.iload 5, 2) := by decide +kernel
theorem dX7_goFrom_89 : decode cX7_goFrom 89 = .ok (.iconst 1, 1) := by decide +kernel
theorem dX7_goFrom_90 : decode cX7_goFrom 90 = .ok (.iadd, 1) := by decide +kernel
theorem dX7_goFrom_91 : decode cX7_goFrom 91 = .ok (.goto 7, 3) := by decide +kernel
theorem dX7_goFrom_94 : decode cX7_goFrom 94 = .ok (.iload 5, 2) := by decide +kernel
theorem dX7_goFrom_96 : decode cX7_goFrom 96 = .ok (.iconst 1, 1) := by decide +kernel
theorem dX7_goFrom_97 : decode cX7_goFrom 97 = .ok (.isub, 1) := by decide +kernel
theorem dX7_goFrom_98 : decode cX7_goFrom 98 = .ok (.aload_n 0, 1) := by decide +kernel
theorem dX7_goFrom_99 : decode cX7_goFrom 99 = .ok (.getfield 13, 3) := by decide +kernel
theorem dX7_goFrom_102 : decode cX7_goFrom 102 = .ok (.iload 7, 2) := by decide +kernel
theorem dX7_goFrom_104 : decode cX7_goFrom 104 = .ok (.iaload, 1) := by decide +kernel
theorem dX7_goFrom_105 : decode cX7_goFrom 105 = .ok (.iconst 3, 1) := by decide +kernel
theorem dX7_goFrom_106 : decode cX7_goFrom 106 = .ok (.if_icmp .ne 12, 3) := by decide +kernel
theorem dX7_goFrom_109 : decode cX7_goFrom 109 = .ok (.aload_n 0, 1) := by decide +kernel
theorem dX7_goFrom_110 : decode cX7_goFrom 110 = .ok (.getfield 16, 3) := by decide +kernel
theorem dX7_goFrom_113 : decode cX7_goFrom 113 = .ok (.iload_n 2, 1) := by decide +kernel
theorem dX7_goFrom_114 : decode cX7_goFrom 114 = .ok (.iaload, 1) := by decide +kernel
theorem dX7_goFrom_115 : decode cX7_goFrom 115 = .ok (.goto 8, 3) := by decide +kernel
theorem dX7_goFrom_118 : decode cX7_goFrom 118 = .ok (.iload 6, 2) := by decide +kernel
theorem dX7_goFrom_120 : decode cX7_goFrom 120 = .ok (.iload 8, 2) := by decide +kernel
theorem dX7_goFrom_122 : decode cX7_goFrom 122 = .ok (.isub, 1) := by decide +kernel
theorem dX7_goFrom_123 : decode cX7_goFrom 123 = .ok (.aload_n 0, 1) := by decide +kernel
theorem dX7_goFrom_124 : decode cX7_goFrom 124 = .ok (.getfield 19, 3) := by decide +kernel
theorem dX7_goFrom_127 : decode cX7_goFrom 127 = .ok (.iload_n 2, 1) := by decide +kernel
theorem dX7_goFrom_128 : decode cX7_goFrom 128 = .ok (.iaload, 1) := by decide +kernel
theorem dX7_goFrom_129 : decode cX7_goFrom 129 = .ok (.iconst 3, 1) := by decide +kernel
theorem dX7_goFrom_130 : decode cX7_goFrom 130 = .ok (.if_icmp .ne 10, 3) := by decide +kernel
theorem dX7_goFrom_133 : decode cX7_goFrom 133 = .ok (.iload 7, 2) := by decide +kernel
theorem dX7_goFrom_135 : decode cX7_goFrom 135 = .ok (.iconst 1, 1) := by decide +kernel
theorem dX7_goFrom_136 : decode cX7_goFrom 136 = .ok (.iadd, 1) := by decide +kernel
theorem dX7_goFrom_137 : decode cX7_goFrom 137 = .ok (.goto 4, 3) := by decide +kernel
theorem dX7_goFrom_140 : decode cX7_goFrom 140 = .ok (.iconst 0, 1) := by decide +kernel
theorem dX7_goFrom_141 : decode cX7_goFrom 141 = .ok (.aload_n 0, 1) := by decide +kernel
theorem dX7_goFrom_142 : decode cX7_goFrom 142 = .ok (.getfield 37, 3) := by decide +kernel
theorem dX7_goFrom_145 : decode cX7_goFrom 145 = .ok (.iload_n 3, 1) := by decide +kernel
theorem dX7_goFrom_146 : decode cX7_goFrom 146 = .ok (.iaload, 1) := by decide +kernel
theorem dX7_goFrom_147 : decode cX7_goFrom 147 = .ok (.iconst 1, 1) := by decide +kernel
theorem dX7_goFrom_148 : decode cX7_goFrom 148 = .ok (.iadd, 1) := by decide +kernel
theorem dX7_goFrom_149 : decode cX7_goFrom 149 = .ok (.invokevirtual 167, 3) := by decide +kernel
theorem dX7_goFrom_152 : decode cX7_goFrom 152 = .ok (.return_, 1) := by decide +kernel
set_option maxRecDepth 20000 in
theorem ggX7_spread_X7_meetState : GoodIn wsX7_spread wsX7_meetState := goodIn_r _ [10, 1, 5, 2, 49, 50, 51, 52, 53, 54, 55, 56, 57, 58, 59, 60, 61, 62, 63, 64, 65, 66, 67, 68, 69, 70, 71, 72, 73, 74, 75, 76, 77, 78] (by decide +kernel) (by decide +kernel)
set_option maxRecDepth 20000 in
theorem gX7_spread_X7_meetState : GoodIn wsX7_spread (wsV RX7 167 RX7 yX7_meetState wsX7_meetState) := goodIn_app (goodIn_of _ (by decide +kernel)) ggX7_spread_X7_meetState
set_option maxRecDepth 20000 in
theorem ggX7_spread_X7_goFrom : GoodIn wsX7_spread wsX7_goFrom := goodIn_r _ [14, 15, 3, 4, 16, 17, 1, 18, 19, 20, 9, 21, 22, 23, 24, 25, 26, 27, 28, 29, 30, 31, 32, 33, 34, 35, 36, 37, 38, 39, 40, 41, 42, 43, 44, 6, 7, 8, 10, 5, 2, 49, 50, 51, 52, 53, 54, 55, 56, 57, 58, 59, 60, 61, 62, 63, 64, 65, 66, 67, 68, 69, 70, 71, 72, 73, 74, 75, 76, 77, 78] (by decide +kernel) (by decide +kernel)
set_option maxRecDepth 20000 in
theorem gX7_spread_X7_goFrom : GoodIn wsX7_spread (wsV RX7 171 RX7 yX7_goFrom wsX7_goFrom) := goodIn_app (goodIn_of _ (by decide +kernel)) ggX7_spread_X7_goFrom
set_option maxRecDepth 20000 in
theorem ggX7_spread_X7_rested : GoodIn wsX7_spread wsX7_rested := goodIn_r _ [48, 17, 39, 40, 9, 41, 49, 50, 51, 52, 53, 54, 55, 56, 57, 58, 59, 60, 61, 62, 63, 64, 65, 66, 67, 68, 69, 70, 71, 72, 73, 74, 75, 76, 77, 78] (by decide +kernel) (by decide +kernel)
set_option maxRecDepth 20000 in
theorem gX7_spread_X7_rested : GoodIn wsX7_spread (wsV RX7 137 RX7 yX7_rested wsX7_rested) := goodIn_app (goodIn_of _ (by decide +kernel)) ggX7_spread_X7_rested
theorem dX7_spread_0 : decode cX7_spread 0 = .ok (.bipush 14, 2) := by decide +kernel
theorem dX7_spread_2 : decode cX7_spread 2 = .ok (.iload_n 1, 1) := by decide +kernel
theorem dX7_spread_3 : decode cX7_spread 3 = .ok (.imul, 1) := by decide +kernel
theorem dX7_spread_4 : decode cX7_spread 4 = .ok (.istore 5, 2) := by decide +kernel
theorem dX7_spread_6 : decode cX7_spread 6 = .ok (.iconst 0, 1) := by decide +kernel
theorem dX7_spread_7 : decode cX7_spread 7 = .ok (.istore 6, 2) := by decide +kernel
theorem dX7_spread_9 : decode cX7_spread 9 = .ok (.iload 6, 2) := by decide +kernel
theorem dX7_spread_11 : decode cX7_spread 11 = .ok (.sipush 1210, 3) := by decide +kernel
theorem dX7_spread_14 : decode cX7_spread 14 = .ok (.if_icmp .ge 18, 3) := by decide +kernel
theorem dX7_spread_17 : decode cX7_spread 17 = .ok (.aload_n 0, 1) := by decide +kernel
theorem dX7_spread_18 : decode cX7_spread 18 = .ok (.getfield 37, 3) := by decide +kernel
theorem dX7_spread_21 : decode cX7_spread 21 = .ok (.iload 6, 2) := by decide +kernel
theorem dX7_spread_23 : decode cX7_spread 23 = .ok (.bipush (-9), 2) := by decide +kernel
theorem dX7_spread_25 : decode cX7_spread 25 = .ok (.iastore, 1) := by decide +kernel
theorem dX7_spread_26 : decode cX7_spread 26 = .ok (.iinc 6 1, 3) := by decide +kernel
theorem dX7_spread_29 : decode cX7_spread 29 = .ok (.goto (-20), 3) := by decide +kernel
theorem dX7_spread_32 : decode cX7_spread 32 = .ok (.aload_n 0, 1) := by decide +kernel
theorem dX7_spread_33 : decode cX7_spread 33 = .ok (.iconst 0, 1) := by decide +kernel
theorem dX7_spread_34 : decode cX7_spread 34 = .ok (.putfield 161, 3) := by decide +kernel
theorem dX7_spread_37 : decode cX7_spread 37 = .ok (.aload_n 0, 1) := by decide +kernel
theorem dX7_spread_38 : decode cX7_spread 38 = .ok (.iload 4, 2) := by decide +kernel
theorem dX7_spread_40 : decode cX7_spread 40 = .ok (.putfield 164, 3) := by decide +kernel
theorem dX7_spread_43 : decode cX7_spread 43 = .ok (.aload_n 0, 1) := by decide +kernel
theorem dX7_spread_44 : decode cX7_spread 44 = .ok (.aload_n 0, 1) := by decide +kernel
theorem dX7_spread_45 : decode cX7_spread 45 = .ok (.getfield 22, 3) := by decide +kernel
theorem dX7_spread_48 : decode cX7_spread 48 = .ok (.iload 5, 2) := by decide +kernel
theorem dX7_spread_50 : decode cX7_spread 50 = .ok (.iload_n 2, 1) := by decide +kernel
theorem dX7_spread_51 : decode cX7_spread 51 = .ok (.iadd, 1) := by decide +kernel
theorem dX7_spread_52 : decode cX7_spread 52 = .ok (.iaload, 1) := by decide +kernel
theorem dX7_spread_53 : decode cX7_spread 53 = .ok (.aload_n 0, 1) := by decide +kernel
theorem dX7_spread_54 : decode cX7_spread 54 = .ok (.getfield 22, 3) := by decide +kernel
theorem dX7_spread_57 : decode cX7_spread 57 = .ok (.iload 5, 2) := by decide +kernel
theorem dX7_spread_59 : decode cX7_spread 59 = .ok (.iconst 5, 1) := by decide +kernel
theorem dX7_spread_60 : decode cX7_spread 60 = .ok (.iadd, 1) := by decide +kernel
theorem dX7_spread_61 : decode cX7_spread 61 = .ok (.iload_n 2, 1) := by decide +kernel
theorem dX7_spread_62 : decode cX7_spread 62 = .ok (.iadd, 1) := by decide +kernel
theorem dX7_spread_63 : decode cX7_spread 63 = .ok (.iaload, 1) := by decide +kernel
theorem dX7_spread_64 : decode cX7_spread 64 = .ok (.aload_n 0, 1) := by decide +kernel
theorem dX7_spread_65 : decode cX7_spread 65 = .ok (.getfield 22, 3) := by decide +kernel
theorem dX7_spread_68 : decode cX7_spread 68 = .ok (.iload 5, 2) := by decide +kernel
theorem dX7_spread_70 : decode cX7_spread 70 = .ok (.bipush 11, 2) := by decide +kernel
theorem dX7_spread_72 : decode cX7_spread 72 = .ok (.iadd, 1) := by decide +kernel
theorem dX7_spread_73 : decode cX7_spread 73 = .ok (.iaload, 1) := by decide +kernel
theorem dX7_spread_74 : decode cX7_spread 74 = .ok (.iconst 0, 1) := by decide +kernel
theorem dX7_spread_75 : decode cX7_spread 75 = .ok (.invokevirtual 167, 3) := by decide +kernel
theorem dX7_spread_78 : decode cX7_spread 78 = .ok (.iconst 0, 1) := by decide +kernel
theorem dX7_spread_79 : decode cX7_spread 79 = .ok (.istore 6, 2) := by decide +kernel
theorem dX7_spread_81 : decode cX7_spread 81 = .ok (.iload 6, 2) := by decide +kernel
theorem dX7_spread_83 : decode cX7_spread 83 = .ok (.aload_n 0, 1) := by decide +kernel
theorem dX7_spread_84 : decode cX7_spread 84 = .ok (.getfield 161, 3) := by decide +kernel
theorem dX7_spread_87 : decode cX7_spread 87 = .ok (.if_icmp .ge 72, 3) := by decide +kernel
theorem dX7_spread_90 : decode cX7_spread 90 = .ok (.aload_n 0, 1) := by decide +kernel
theorem dX7_spread_91 : decode cX7_spread 91 = .ok (.getfield 40, 3) := by decide +kernel
theorem dX7_spread_94 : decode cX7_spread 94 = .ok (.iload 6, 2) := by decide +kernel
theorem dX7_spread_96 : decode cX7_spread 96 = .ok (.iaload, 1) := by decide +kernel
theorem dX7_spread_97 : decode cX7_spread 97 = .ok (.istore 7, 2) := by decide +kernel
theorem dX7_spread_99 : decode cX7_spread 99 = .ok (.aload_n 0, 1) := by decide +kernel
theorem dX7_spread_100 : decode cX7_spread 100 = .ok (.iload_n 1, 1) := by decide +kernel
theorem dX7_spread_101 : decode cX7_spread 101 = .ok (.iload_n 2, 1) := by decide +kernel
theorem dX7_spread_102 : decode cX7_spread 102 = .ok (.iload 7, 2) := by decide +kernel
theorem dX7_spread_104 : decode cX7_spread 104 = .ok (.iconst 0, 1) := by decide +kernel
theorem dX7_spread_105 : decode cX7_spread 105 = .ok (.invokevirtual 171, 3) := by decide +kernel
theorem dX7_spread_108 : decode cX7_spread 108 = .ok (.aload_n 0, 1) := by decide +kernel
theorem dX7_spread_109 : decode cX7_spread 109 = .ok (.iload_n 1, 1) := by decide +kernel
theorem dX7_spread_110 : decode cX7_spread 110 = .ok (.iload_n 2, 1) := by decide +kernel
theorem dX7_spread_111 : decode cX7_spread 111 = .ok (.iload 7, 2) := by decide +kernel
theorem dX7_spread_113 : decode cX7_spread 113 = .ok (.iconst 1, 1) := by decide +kernel
theorem dX7_spread_114 : decode cX7_spread 114 = .ok (.invokevirtual 171, 3) := by decide +kernel
theorem dX7_spread_117 : decode cX7_spread 117 = .ok (.iload_n 3, 1) := by decide +kernel
theorem dX7_spread_118 : decode cX7_spread 118 = .ok (.ifCond .eq 35, 3) := by decide +kernel
theorem dX7_spread_121 : decode cX7_spread 121 = .ok (.aload_n 0, 1) := by decide +kernel
theorem dX7_spread_122 : decode cX7_spread 122 = .ok (.iload 7, 2) := by decide +kernel
theorem dX7_spread_124 : decode cX7_spread 124 = .ok (.bipush 110, 2) := by decide +kernel
theorem dX7_spread_126 : decode cX7_spread 126 = .ok (.idiv, 1) := by decide +kernel
theorem dX7_spread_127 : decode cX7_spread 127 = .ok (.aload_n 0, 1) := by decide +kernel
theorem dX7_spread_128 : decode cX7_spread 128 = .ok (.iload_n 2, 1) := by decide +kernel
theorem dX7_spread_129 : decode cX7_spread 129 = .ok (.iload 7, 2) := by decide +kernel
theorem dX7_spread_131 : decode cX7_spread 131 = .ok (.bipush 11, 2) := by decide +kernel
theorem dX7_spread_133 : decode cX7_spread 133 = .ok (.idiv, 1) := by decide +kernel
theorem dX7_spread_134 : decode cX7_spread 134 = .ok (.bipush 10, 2) := by decide +kernel
theorem dX7_spread_136 : decode cX7_spread 136 = .ok (.irem, 1) := by decide +kernel
theorem dX7_spread_137 : decode cX7_spread 137 = .ok (.invokevirtual 137, 3) := by decide +kernel
theorem dX7_spread_140 : decode cX7_spread 140 = .ok (.iconst 0, 1) := by decide +kernel
theorem dX7_spread_141 : decode cX7_spread 141 = .ok (.aload_n 0, 1) := by decide +kernel
theorem dX7_spread_142 : decode cX7_spread 142 = .ok (.getfield 37, 3) := by decide +kernel
theorem dX7_spread_145 : decode cX7_spread 145 = .ok (.iload 7, 2) := by decide +kernel
theorem dX7_spread_147 : decode cX7_spread 147 = .ok (.iaload, 1) := by decide +kernel
theorem dX7_spread_148 : decode cX7_spread 148 = .ok (.iconst 1, 1) := by decide +kernel
theorem dX7_spread_149 : decode cX7_spread 149 = .ok (.iadd, 1) := by decide +kernel
theorem dX7_spread_150 : decode cX7_spread 150 = .ok (.invokevirtual 167, 3) := by decide +kernel
theorem dX7_spread_153 : decode cX7_spread 153 = .ok (.iinc 6 1, 3) := by decide +kernel
theorem dX7_spread_156 : decode cX7_spread 156 = .ok (.goto (-75), 3) := by decide +kernel
theorem dX7_spread_159 : decode cX7_spread 159 = .ok (.return_, 1) := by decide +kernel
set_option maxRecDepth 20000 in
theorem ggX7_reachOn_X7_spread : GoodIn wsX7_reachOn wsX7_spread := goodIn_r _ [7, 8, 1, 9, 10, 2, 11, 12, 13, 6, 14, 15, 16, 17, 18, 19, 20, 21, 22, 23, 24, 25, 26, 27, 28, 29, 30, 31, 32, 33, 34, 35, 36, 37, 38, 39, 40, 41, 42, 43, 44, 45, 46, 47, 48, 49, 50, 51, 52, 53, 54, 55, 56, 57, 58, 59, 60, 61, 62, 63, 64, 65, 66, 67, 68, 69, 70, 71, 72, 73, 74, 75, 76, 77, 78, 79, 80, 81, 82] (by decide +kernel) (by decide +kernel)
set_option maxRecDepth 20000 in
theorem gX7_reachOn_X7_spread : GoodIn wsX7_reachOn (wsV RX7 175 RX7 yX7_spread wsX7_spread) := goodIn_app (goodIn_of _ (by decide +kernel)) ggX7_reachOn_X7_spread
theorem dX7_reachOn_0 : decode cX7_reachOn 0 = .ok (.aload_n 0, 1) := by decide +kernel
theorem dX7_reachOn_1 : decode cX7_reachOn 1 = .ok (.iload_n 1, 1) := by decide +kernel
theorem dX7_reachOn_2 : decode cX7_reachOn 2 = .ok (.iload_n 2, 1) := by decide +kernel
theorem dX7_reachOn_3 : decode cX7_reachOn 3 = .ok (.iconst 0, 1) := by decide +kernel
theorem dX7_reachOn_4 : decode cX7_reachOn 4 = .ok (.iload_n 3, 1) := by decide +kernel
theorem dX7_reachOn_5 : decode cX7_reachOn 5 = .ok (.invokevirtual 175, 3) := by decide +kernel
theorem dX7_reachOn_8 : decode cX7_reachOn 8 = .ok (.iconst 0, 1) := by decide +kernel
theorem dX7_reachOn_9 : decode cX7_reachOn 9 = .ok (.istore 4, 2) := by decide +kernel
theorem dX7_reachOn_11 : decode cX7_reachOn 11 = .ok (.iconst 0, 1) := by decide +kernel
theorem dX7_reachOn_12 : decode cX7_reachOn 12 = .ok (.istore 5, 2) := by decide +kernel
theorem dX7_reachOn_14 : decode cX7_reachOn 14 = .ok (.iload 5, 2) := by decide +kernel
theorem dX7_reachOn_16 : decode cX7_reachOn 16 = .ok (.aload_n 0, 1) := by decide +kernel
theorem dX7_reachOn_17 : decode cX7_reachOn 17 = .ok (.getfield 161, 3) := by decide +kernel
theorem dX7_reachOn_20 : decode cX7_reachOn 20 = .ok (.if_icmp .ge 26, 3) := by decide +kernel
theorem dX7_reachOn_23 : decode cX7_reachOn 23 = .ok (.iload 4, 2) := by decide +kernel
theorem dX7_reachOn_25 : decode cX7_reachOn 25 = .ok (.iconst 1, 1) := by decide +kernel
theorem dX7_reachOn_26 : decode cX7_reachOn 26 = .ok (.aload_n 0, 1) := by decide +kernel
theorem dX7_reachOn_27 : decode cX7_reachOn 27 = .ok (.getfield 40, 3) := by decide +kernel
theorem dX7_reachOn_30 : decode cX7_reachOn 30 = .ok (.iload 5, 2) := by decide +kernel
theorem dX7_reachOn_32 : decode cX7_reachOn 32 = .ok (.iaload, 1) := by decide +kernel
theorem dX7_reachOn_33 : decode cX7_reachOn 33 = .ok (.bipush 110, 2) := by decide +kernel
theorem dX7_reachOn_35 : decode cX7_reachOn 35 = .ok (.idiv, 1) := by decide +kernel
theorem dX7_reachOn_36 : decode cX7_reachOn 36 = .ok (.ishl, 1) := by decide +kernel
theorem dX7_reachOn_37 : decode cX7_reachOn 37 = .ok (.ior, 1) := by decide +kernel
theorem dX7_reachOn_38 : decode cX7_reachOn 38 = .ok (.istore 4, 2) := by decide +kernel
theorem dX7_reachOn_40 : decode cX7_reachOn 40 = .ok (.iinc 5 1, 3) := by decide +kernel
theorem dX7_reachOn_43 : decode cX7_reachOn 43 = .ok (.goto (-29), 3) := by decide +kernel
theorem dX7_reachOn_46 : decode cX7_reachOn 46 = .ok (.iload 4, 2) := by decide +kernel
theorem dX7_reachOn_48 : decode cX7_reachOn 48 = .ok (.ireturn, 1) := by decide +kernel
set_option maxRecDepth 20000 in
theorem ggX7_reachNow_X7_reachOn : GoodIn wsX7_reachNow wsX7_reachOn := goodIn_r _ [6, 7, 8, 9, 10, 11, 5, 12, 13, 14, 1, 15, 16, 17, 18, 19, 20, 21, 22, 23, 24, 25, 26, 27, 28, 29, 30, 31, 32, 33, 34, 35, 36, 37, 38, 39, 40, 41, 42, 43, 44, 45, 46, 47, 48, 49, 50, 51, 52, 53, 54, 55, 56, 57, 58, 59, 60, 61, 62, 63, 64, 65, 66, 67, 68, 69, 70, 71, 72, 73, 74, 75, 76, 77, 78, 79, 80, 81, 82, 83, 84, 85, 86] (by decide +kernel) (by decide +kernel)
set_option maxRecDepth 20000 in
theorem gX7_reachNow_X7_reachOn : GoodIn wsX7_reachNow (wsV RX7 179 RX7 yX7_reachOn wsX7_reachOn) := goodIn_app (goodIn_of _ (by decide +kernel)) ggX7_reachNow_X7_reachOn
theorem dX7_reachNow_0 : decode cX7_reachNow 0 = .ok (.aload_n 0, 1) := by decide +kernel
theorem dX7_reachNow_1 : decode cX7_reachNow 1 = .ok (.iconst 0, 1) := by decide +kernel
theorem dX7_reachNow_2 : decode cX7_reachNow 2 = .ok (.iload_n 1, 1) := by decide +kernel
theorem dX7_reachNow_3 : decode cX7_reachNow 3 = .ok (.aload_n 0, 1) := by decide +kernel
theorem dX7_reachNow_4 : decode cX7_reachNow 4 = .ok (.getfield 22, 3) := by decide +kernel
theorem dX7_reachNow_7 : decode cX7_reachNow 7 = .ok (.bipush 10, 2) := by decide +kernel
theorem dX7_reachNow_9 : decode cX7_reachNow 9 = .ok (.iaload, 1) := by decide +kernel
theorem dX7_reachNow_10 : decode cX7_reachNow 10 = .ok (.invokevirtual 179, 3) := by decide +kernel
theorem dX7_reachNow_13 : decode cX7_reachNow 13 = .ok (.ireturn, 1) := by decide +kernel
set_option maxRecDepth 20000 in
theorem ggX7_reach_X7_isTraveller : GoodIn wsX7_reach wsX7_isTraveller := goodIn_r _ [5, 6, 7, 8, 4, 9, 66, 67, 68, 69, 70, 71, 72, 73, 74, 75, 76, 77, 78, 79, 80, 81, 82, 83, 84, 85, 86, 87, 88, 89, 90, 91, 92, 93, 94, 95] (by decide +kernel) (by decide +kernel)
set_option maxRecDepth 20000 in
theorem gX7_reach_X7_isTraveller : GoodIn wsX7_reach (wsV RX7 126 RX7 yX7_isTraveller wsX7_isTraveller) := goodIn_app (goodIn_of _ (by decide +kernel)) ggX7_reach_X7_isTraveller
set_option maxRecDepth 20000 in
theorem ggX7_reach_X7_reachNow : GoodIn wsX7_reach wsX7_reachNow := goodIn_r _ [13, 14, 15, 16, 17, 4, 18, 19, 20, 21, 22, 23, 24, 25, 26, 27, 28, 29, 30, 31, 32, 33, 34, 35, 36, 37, 38, 39, 40, 41, 42, 43, 44, 45, 46, 7, 8, 9, 47, 48, 49, 50, 51, 52, 53, 54, 55, 56, 57, 58, 59, 60, 61, 62, 63, 64, 65, 66, 67, 68, 69, 70, 71, 72, 73, 74, 75, 76, 77, 78, 79, 80, 81, 82, 83, 84, 85, 86, 87, 88, 89, 90, 91, 92, 93, 94, 95] (by decide +kernel) (by decide +kernel)
set_option maxRecDepth 20000 in
theorem gX7_reach_X7_reachNow : GoodIn wsX7_reach (wsV RX7 182 RX7 yX7_reachNow wsX7_reachNow) := goodIn_app (goodIn_of _ (by decide +kernel)) ggX7_reach_X7_reachNow
theorem dX7_reach_0 : decode cX7_reach 0 = .ok (.aload_n 0, 1) := by decide +kernel
theorem dX7_reach_1 : decode cX7_reach 1 = .ok (.iload_n 1, 1) := by decide +kernel
theorem dX7_reach_2 : decode cX7_reach 2 = .ok (.invokevirtual 126, 3) := by decide +kernel
theorem dX7_reach_5 : decode cX7_reach 5 = .ok (.ifCond .eq 11, 3) := by decide +kernel
theorem dX7_reach_8 : decode cX7_reach 8 = .ok (.aload_n 0, 1) := by decide +kernel
theorem dX7_reach_9 : decode cX7_reach 9 = .ok (.iload_n 1, 1) := by decide +kernel
theorem dX7_reach_10 : decode cX7_reach 10 = .ok (.invokevirtual 182, 3) := by decide +kernel
theorem dX7_reach_13 : decode cX7_reach 13 = .ok (.goto 4, 3) := by decide +kernel
theorem dX7_reach_16 : decode cX7_reach 16 = .ok (.iconst (-1), 1) := by decide +kernel
theorem dX7_reach_17 : decode cX7_reach 17 = .ok (.ireturn, 1) := by decide +kernel
set_option maxRecDepth 20000 in
theorem ggX7_fewest_X7_isTraveller : GoodIn wsX7_fewest wsX7_isTraveller := goodIn_r _ [9, 10, 11, 12, 8, 13, 62, 63, 64, 65, 66, 67, 68, 69, 70, 71, 72, 73, 74, 75, 76, 77, 78, 79, 80, 81, 82, 83, 84, 85, 86, 87, 88, 89, 90, 91] (by decide +kernel) (by decide +kernel)
set_option maxRecDepth 20000 in
theorem gX7_fewest_X7_isTraveller : GoodIn wsX7_fewest (wsV RX7 126 RX7 yX7_isTraveller wsX7_isTraveller) := goodIn_app (goodIn_of _ (by decide +kernel)) ggX7_fewest_X7_isTraveller
set_option maxRecDepth 20000 in
theorem ggX7_fewest_X7_isPlace : GoodIn wsX7_fewest wsX7_isPlace := goodIn_r _ [17, 18, 11, 12, 8, 13, 62, 63, 64, 65, 66, 67, 68, 69, 70, 71, 72, 73, 74, 75, 76, 77, 78, 79, 80, 81, 82, 83, 84, 85, 86, 87, 88, 89, 90, 91] (by decide +kernel) (by decide +kernel)
set_option maxRecDepth 20000 in
theorem gX7_fewest_X7_isPlace : GoodIn wsX7_fewest (wsV RX7 186 RX7 yX7_isPlace wsX7_isPlace) := goodIn_app (goodIn_of _ (by decide +kernel)) ggX7_fewest_X7_isPlace
set_option maxRecDepth 20000 in
theorem ggX7_fewest_X7_spread : GoodIn wsX7_fewest wsX7_spread := goodIn_r _ [22, 4, 2, 23, 1, 3, 24, 25, 26, 8, 27, 28, 29, 30, 31, 32, 33, 34, 35, 36, 37, 38, 39, 40, 41, 42, 18, 11, 12, 13, 43, 44, 45, 46, 47, 48, 49, 50, 51, 52, 53, 54, 55, 56, 57, 58, 59, 60, 61, 62, 63, 64, 65, 66, 67, 68, 69, 70, 71, 72, 73, 74, 75, 76, 77, 78, 79, 80, 81, 82, 83, 84, 85, 86, 87, 88, 89, 90, 91] (by decide +kernel) (by decide +kernel)
set_option maxRecDepth 20000 in
theorem gX7_fewest_X7_spread : GoodIn wsX7_fewest (wsV RX7 175 RX7 yX7_spread wsX7_spread) := goodIn_app (goodIn_of _ (by decide +kernel)) ggX7_fewest_X7_spread
theorem dX7_fewest_0 : decode cX7_fewest 0 = .ok (.aload_n 0, 1) := by decide +kernel
theorem dX7_fewest_1 : decode cX7_fewest 1 = .ok (.iload_n 1, 1) := by decide +kernel
theorem dX7_fewest_2 : decode cX7_fewest 2 = .ok (.invokevirtual 126, 3) := by decide +kernel
theorem dX7_fewest_5 : decode cX7_fewest 5 = .ok (.ifCond .eq 11, 3) := by decide +kernel
theorem dX7_fewest_8 : decode cX7_fewest 8 = .ok (.aload_n 0, 1) := by decide +kernel
theorem dX7_fewest_9 : decode cX7_fewest 9 = .ok (.iload_n 2, 1) := by decide +kernel
theorem dX7_fewest_10 : decode cX7_fewest 10 = .ok (.invokevirtual 186, 3) := by decide +kernel
theorem dX7_fewest_13 : decode cX7_fewest 13 = .ok (.ifCond .ne 5, 3) := by decide +kernel
theorem dX7_fewest_16 : decode cX7_fewest 16 = .ok (.iconst (-1), 1) := by decide +kernel
theorem dX7_fewest_17 : decode cX7_fewest 17 = .ok (.ireturn, 1) := by decide +kernel
theorem dX7_fewest_18 : decode cX7_fewest 18 = .ok (.aload_n 0, 1) := by decide +kernel
theorem dX7_fewest_19 : decode cX7_fewest 19 = .ok (.iconst 0, 1) := by decide +kernel
theorem dX7_fewest_20 : decode cX7_fewest 20 = .ok (.iload_n 1, 1) := by decide +kernel
theorem dX7_fewest_21 : decode cX7_fewest 21 = .ok (.iconst 1, 1) := by decide +kernel
theorem dX7_fewest_22 : decode cX7_fewest 22 = .ok (.aload_n 0, 1) := by decide +kernel
theorem dX7_fewest_23 : decode cX7_fewest 23 = .ok (.getfield 22, 3) := by decide +kernel
theorem dX7_fewest_26 : decode cX7_fewest 26 = .ok (.bipush 10, 2) := by decide +kernel
theorem dX7_fewest_28 : decode cX7_fewest 28 = .ok (.iaload, 1) := by decide +kernel
theorem dX7_fewest_29 : decode cX7_fewest 29 = .ok (.invokevirtual 175, 3) := by decide +kernel
theorem dX7_fewest_32 : decode cX7_fewest 32 = .ok (.iconst 0, 1) := by decide +kernel
theorem dX7_fewest_33 : decode cX7_fewest 33 = .ok (.istore_n 3, 1) := by decide +kernel
theorem dX7_fewest_34 : decode cX7_fewest 34 = .ok (.iload_n 3, 1) := by decide +kernel
theorem dX7_fewest_35 : decode cX7_fewest 35 = .ok (.aload_n 0, 1) := by decide +kernel
theorem dX7_fewest_36 : decode cX7_fewest 36 = .ok (.getfield 161, 3) := by decide +kernel
theorem dX7_fewest_39 : decode cX7_fewest 39 = .ok (.if_icmp .ge 55, 3) := by decide +kernel
theorem dX7_fewest_42 : decode cX7_fewest 42 = .ok (.aload_n 0, 1) := by decide +kernel
theorem dX7_fewest_43 : decode cX7_fewest 43 = .ok (.getfield 40, 3) := by decide +kernel
theorem dX7_fewest_46 : decode cX7_fewest 46 = .ok (.iload_n 3, 1) := by decide +kernel
theorem dX7_fewest_47 : decode cX7_fewest 47 = .ok (.iaload, 1) := by decide +kernel
theorem dX7_fewest_48 : decode cX7_fewest 48 = .ok (.bipush 110, 2) := by decide +kernel
theorem dX7_fewest_50 : decode cX7_fewest 50 = .ok (.idiv, 1) := by decide +kernel
theorem dX7_fewest_51 : decode cX7_fewest 51 = .ok (.iload_n 2, 1) := by decide +kernel
theorem dX7_fewest_52 : decode cX7_fewest 52 = .ok (.if_icmp .ne 36, 3) := by decide +kernel
theorem dX7_fewest_55 : decode cX7_fewest 55 = .ok (.aload_n 0, 1) := by decide +kernel
theorem dX7_fewest_56 : decode cX7_fewest 56 = .ok (.getfield 37, 3) := by decide +kernel
theorem dX7_fewest_59 : decode cX7_fewest 59 = .ok (.aload_n 0, 1) := by decide +kernel
theorem dX7_fewest_60 : decode cX7_fewest 60 = .ok (.getfield 40, 3) := by decide +kernel
theorem dX7_fewest_63 : decode cX7_fewest 63 = .ok (.iload_n 3, 1) := by decide +kernel
theorem dX7_fewest_64 : decode cX7_fewest 64 = .ok (.iaload, 1) := by decide +kernel
theorem dX7_fewest_65 : decode cX7_fewest 65 = .ok (.iaload, 1) := by decide +kernel
theorem dX7_fewest_66 : decode cX7_fewest 66 = .ok (.bipush 30, 2) := by decide +kernel
theorem dX7_fewest_68 : decode cX7_fewest 68 = .ok (.if_icmp .le 8, 3) := by decide +kernel
theorem dX7_fewest_71 : decode cX7_fewest 71 = .ok (.bipush (-9), 2) := by decide +kernel
theorem dX7_fewest_73 : decode cX7_fewest 73 = .ok (.goto 14, 3) := by decide +kernel
theorem dX7_fewest_76 : decode cX7_fewest 76 = .ok (.aload_n 0, 1) := by decide +kernel
theorem dX7_fewest_77 : decode cX7_fewest 77 = .ok (.getfield 37, 3) := by decide +kernel
theorem dX7_fewest_80 : decode cX7_fewest 80 = .ok (.aload_n 0, 1) := by decide +kernel
theorem dX7_fewest_81 : decode cX7_fewest 81 = .ok (.getfield 40, 3) := by decide +kernel
theorem dX7_fewest_84 : decode cX7_fewest 84 = .ok (.iload_n 3, 1) := by decide +kernel
theorem dX7_fewest_85 : decode cX7_fewest 85 = .ok (.iaload, 1) := by decide +kernel
theorem dX7_fewest_86 : decode cX7_fewest 86 = .ok (.iaload, 1) := by decide +kernel
theorem dX7_fewest_87 : decode cX7_fewest 87 = .ok (.ireturn, 1) := by decide +kernel
theorem dX7_fewest_88 : decode cX7_fewest 88 = .ok (.iinc 3 1, 3) := by decide +kernel
theorem dX7_fewest_91 : decode cX7_fewest 91 = .ok (.goto (-57), 3) := by decide +kernel
theorem dX7_fewest_94 : decode cX7_fewest 94 = .ok (.bipush (-9), 2) := by decide +kernel
theorem dX7_fewest_96 : decode cX7_fewest 96 = .ok (.ireturn, 1) := by decide +kernel
set_option maxRecDepth 20000 in
theorem ggX7_wants_X7_isTraveller : GoodIn wsX7_wants wsX7_isTraveller := goodIn_r _ [7, 8, 9, 10, 6, 11, 69, 70, 71, 72, 73, 74, 75, 76, 77, 78, 79, 80, 81, 82, 83, 84, 85, 86, 87, 88, 89, 90, 91, 92, 93, 94, 95, 96, 97, 98] (by decide +kernel) (by decide +kernel)
set_option maxRecDepth 20000 in
theorem gX7_wants_X7_isTraveller : GoodIn wsX7_wants (wsV RX7 126 RX7 yX7_isTraveller wsX7_isTraveller) := goodIn_app (goodIn_of _ (by decide +kernel)) ggX7_wants_X7_isTraveller
set_option maxRecDepth 20000 in
theorem ggX7_wants_X7_isPlace : GoodIn wsX7_wants wsX7_isPlace := goodIn_r _ [15, 1, 9, 10, 6, 11, 69, 70, 71, 72, 73, 74, 75, 76, 77, 78, 79, 80, 81, 82, 83, 84, 85, 86, 87, 88, 89, 90, 91, 92, 93, 94, 95, 96, 97, 98] (by decide +kernel) (by decide +kernel)
set_option maxRecDepth 20000 in
theorem gX7_wants_X7_isPlace : GoodIn wsX7_wants (wsV RX7 186 RX7 yX7_isPlace wsX7_isPlace) := goodIn_app (goodIn_of _ (by decide +kernel)) ggX7_wants_X7_isPlace
set_option maxRecDepth 20000 in
theorem ggX7_wants_X7_ones : GoodIn wsX7_wants wsX7_ones := goodIn_r _ [18] (by decide +kernel) (by decide +kernel)
set_option maxRecDepth 20000 in
theorem gX7_wants_X7_ones : GoodIn wsX7_wants (va_wsS RX7 189 yX7_ones wsX7_ones) := goodIn_app (goodIn_of _ (by decide +kernel)) ggX7_wants_X7_ones
set_option maxRecDepth 20000 in
theorem ggX7_wants_X7_reachOn : GoodIn wsX7_wants wsX7_reachOn := goodIn_r _ [22, 23, 24, 25, 26, 27, 6, 28, 29, 30, 2, 31, 32, 33, 34, 35, 36, 37, 38, 39, 40, 41, 42, 43, 44, 45, 46, 47, 48, 49, 1, 9, 10, 11, 50, 51, 52, 53, 54, 55, 56, 57, 58, 59, 60, 61, 62, 63, 64, 65, 66, 67, 68, 69, 70, 71, 72, 73, 74, 75, 76, 77, 78, 79, 80, 81, 82, 83, 84, 85, 86, 87, 88, 89, 90, 91, 92, 93, 94, 95, 96, 97, 98] (by decide +kernel) (by decide +kernel)
set_option maxRecDepth 20000 in
theorem gX7_wants_X7_reachOn : GoodIn wsX7_wants (wsV RX7 179 RX7 yX7_reachOn wsX7_reachOn) := goodIn_app (goodIn_of _ (by decide +kernel)) ggX7_wants_X7_reachOn
set_option maxRecDepth 20000 in
theorem ggX7_wants_X7_has : GoodIn wsX7_wants wsX7_has := goodIn_r _ [58] (by decide +kernel) (by decide +kernel)
set_option maxRecDepth 20000 in
theorem gX7_wants_X7_has : GoodIn wsX7_wants (va_wsS RX7 108 yX7_has wsX7_has) := goodIn_app (goodIn_of _ (by decide +kernel)) ggX7_wants_X7_has
theorem dX7_wants_0 : decode cX7_wants 0 = .ok (.aload_n 0, 1) := by decide +kernel
theorem dX7_wants_1 : decode cX7_wants 1 = .ok (.iload_n 1, 1) := by decide +kernel
theorem dX7_wants_2 : decode cX7_wants 2 = .ok (.invokevirtual 126, 3) := by decide +kernel
theorem dX7_wants_5 : decode cX7_wants 5 = .ok (.ifCond .eq 11, 3) := by decide +kernel
theorem dX7_wants_8 : decode cX7_wants 8 = .ok (.aload_n 0, 1) := by decide +kernel
theorem dX7_wants_9 : decode cX7_wants 9 = .ok (.iload_n 2, 1) := by decide +kernel
theorem dX7_wants_10 : decode cX7_wants 10 = .ok (.invokevirtual 186, 3) := by decide +kernel
theorem dX7_wants_13 : decode cX7_wants 13 = .ok (.ifCond .ne 5, 3) := by decide +kernel
theorem dX7_wants_16 : decode cX7_wants 16 = .ok (.iconst (-1), 1) := by decide +kernel
theorem dX7_wants_17 : decode cX7_wants 17 = .ok (.ireturn, 1) := by decide +kernel
theorem dX7_wants_18 : decode cX7_wants 18 = .ok (.bipush (-9), 2) := by decide +kernel
theorem dX7_wants_20 : decode cX7_wants 20 = .ok (.istore_n 3, 1) := by decide +kernel
theorem dX7_wants_21 : decode cX7_wants 21 = .ok (.iconst 0, 1) := by decide +kernel
theorem dX7_wants_22 : decode cX7_wants 22 = .ok (.istore 4, 2) := by decide +kernel
theorem dX7_wants_24 : decode cX7_wants 24 = .ok (.iload 4, 2) := by decide +kernel
theorem dX7_wants_26 : decode cX7_wants 26 = .ok (.iconst 1, 1) := by decide +kernel
theorem dX7_wants_27 : decode cX7_wants 27 = .ok (.aload_n 0, 1) := by decide +kernel
theorem dX7_wants_28 : decode cX7_wants 28 = .ok (.getfield 93, 3) := by decide +kernel
theorem dX7_wants_31 : decode cX7_wants 31 = .ok (.ishl, 1) := by decide +kernel
theorem dX7_wants_32 : decode cX7_wants 32 = .ok (.if_icmp .ge 82, 3) := by decide +kernel
theorem dX7_wants_35 : decode cX7_wants 35 = .ok (.iload 4, 2) := by decide +kernel
theorem dX7_wants_37 : decode cX7_wants 37 = .ok (.aload_n 0, 1) := by decide +kernel
theorem dX7_wants_38 : decode cX7_wants 38 = .ok (.getfield 22, 3) := by decide +kernel
theorem dX7_wants_41 : decode cX7_wants 41 = .ok (.bipush 10, 2) := by decide +kernel
theorem dX7_wants_43 : decode cX7_wants 43 = .ok (.iaload, 1) := by decide +kernel
theorem dX7_wants_44 : decode cX7_wants 44 = .ok (.iand, 1) := by decide +kernel
theorem dX7_wants_45 : decode cX7_wants 45 = .ok (.ifCond .ne 25, 3) := by decide +kernel
theorem dX7_wants_48 : decode cX7_wants 48 = .ok (.iload_n 3, 1) := by decide +kernel
theorem dX7_wants_49 : decode cX7_wants 49 = .ok (.bipush (-9), 2) := by decide +kernel
theorem dX7_wants_51 : decode cX7_wants 51 = .ok (.if_icmp .eq 15, 3) := by decide +kernel
theorem dX7_wants_54 : decode cX7_wants 54 = .ok (.iload 4, 2) := by decide +kernel
theorem dX7_wants_56 : decode cX7_wants 56 = .ok (.invokestatic 189, 3) := by decide +kernel
theorem dX7_wants_59 : decode cX7_wants 59 = .ok (.iload_n 3, 1) := by decide +kernel
theorem dX7_wants_60 : decode cX7_wants 60 = .ok (.invokestatic 189, 3) := by decide +kernel
theorem dX7_wants_63 : decode cX7_wants 63 = .ok (.if_icmp .ge 7, 3) := by decide +kernel
theorem dX7_wants_66 : decode cX7_wants 66 = .ok (.iconst 1, 1) := by decide +kernel
theorem dX7_wants_67 : decode cX7_wants 67 = .ok (.goto 4, 3) := by decide +kernel
theorem dX7_wants_70 : decode cX7_wants 70 = .ok (.iconst 0, 1) := by decide +kernel
theorem dX7_wants_71 : decode cX7_wants 71 = .ok (.istore 5, 2) := by decide +kernel
theorem dX7_wants_73 : decode cX7_wants 73 = .ok (.iload 5, 2) := by decide +kernel
theorem dX7_wants_75 : decode cX7_wants 75 = .ok (.ifCond .eq 31, 3) := by decide +kernel
theorem dX7_wants_78 : decode cX7_wants 78 = .ok (.aload_n 0, 1) := by decide +kernel
theorem dX7_wants_79 : decode cX7_wants 79 = .ok (.iconst 0, 1) := by decide +kernel
theorem dX7_wants_80 : decode cX7_wants 80 = .ok (.iload_n 1, 1) := by decide +kernel
theorem dX7_wants_81 : decode cX7_wants 81 = .ok (.aload_n 0, 1) := by decide +kernel
theorem dX7_wants_82 : decode cX7_wants 82 = .ok (.getfield 22, 3) := by decide +kernel
theorem dX7_wants_85 : decode cX7_wants 85 = .ok (.bipush 10, 2) := by decide +kernel
theorem dX7_wants_87 : decode cX7_wants 87 = .ok (.iaload, 1) := by decide +kernel
theorem dX7_wants_88 : decode cX7_wants 88 = .ok (.iload 4, 2) := by decide +kernel
theorem dX7_wants_90 : decode cX7_wants 90 = .ok (.ior, 1) := by decide +kernel
theorem dX7_wants_91 : decode cX7_wants 91 = .ok (.invokevirtual 179, 3) := by decide +kernel
theorem dX7_wants_94 : decode cX7_wants 94 = .ok (.iload_n 2, 1) := by decide +kernel
theorem dX7_wants_95 : decode cX7_wants 95 = .ok (.invokestatic 108, 3) := by decide +kernel
theorem dX7_wants_98 : decode cX7_wants 98 = .ok (.ifCond .eq 8, 3) := by decide +kernel
theorem dX7_wants_101 : decode cX7_wants 101 = .ok (.iload 4, 2) := by decide +kernel
theorem dX7_wants_103 : decode cX7_wants 103 = .ok (.goto 4, 3) := by decide +kernel
theorem dX7_wants_106 : decode cX7_wants 106 = .ok (.iload_n 3, 1) := by decide +kernel
theorem dX7_wants_107 : decode cX7_wants 107 = .ok (.istore_n 3, 1) := by decide +kernel
theorem dX7_wants_108 : decode cX7_wants 108 = .ok (.iinc 4 1, 3) := by decide +kernel
theorem dX7_wants_111 : decode cX7_wants 111 = .ok (.goto (-87), 3) := by decide +kernel
theorem dX7_wants_114 : decode cX7_wants 114 = .ok (.iload_n 3, 1) := by decide +kernel
theorem dX7_wants_115 : decode cX7_wants 115 = .ok (.ireturn, 1) := by decide +kernel
set_option maxRecDepth 20000 in
theorem ggX7_shutIn_X7_reachNow : GoodIn wsX7_shutIn wsX7_reachNow := goodIn_r _ [7, 2, 8, 9, 10, 6, 11, 12, 13, 14, 15, 16, 17, 18, 19, 20, 21, 22, 23, 24, 25, 26, 27, 28, 29, 30, 31, 32, 33, 34, 35, 36, 37, 38, 39, 40, 41, 42, 43, 44, 45, 46, 47, 48, 49, 50, 51, 52, 53, 54, 55, 56, 57, 58, 59, 60, 61, 62, 63, 64, 65, 66, 67, 68, 69, 70, 71, 72, 73, 74, 75, 76, 77, 78, 79, 80, 81, 82, 83, 84, 85, 86, 87, 88, 89, 90, 91] (by decide +kernel) (by decide +kernel)
set_option maxRecDepth 20000 in
theorem gX7_shutIn_X7_reachNow : GoodIn wsX7_shutIn (wsV RX7 182 RX7 yX7_reachNow wsX7_reachNow) := goodIn_app (goodIn_of _ (by decide +kernel)) ggX7_shutIn_X7_reachNow
theorem dX7_shutIn_0 : decode cX7_shutIn 0 = .ok (.iconst 0, 1) := by decide +kernel
theorem dX7_shutIn_1 : decode cX7_shutIn 1 = .ok (.istore_n 1, 1) := by decide +kernel
theorem dX7_shutIn_2 : decode cX7_shutIn 2 = .ok (.iconst 0, 1) := by decide +kernel
theorem dX7_shutIn_3 : decode cX7_shutIn 3 = .ok (.istore_n 2, 1) := by decide +kernel
theorem dX7_shutIn_4 : decode cX7_shutIn 4 = .ok (.iload_n 2, 1) := by decide +kernel
theorem dX7_shutIn_5 : decode cX7_shutIn 5 = .ok (.aload_n 0, 1) := by decide +kernel
theorem dX7_shutIn_6 : decode cX7_shutIn 6 = .ok (.getfield 96, 3) := by decide +kernel
theorem dX7_shutIn_9 : decode cX7_shutIn 9 = .ok (.if_icmp .ge 35, 3) := by decide +kernel
theorem dX7_shutIn_12 : decode cX7_shutIn 12 = .ok (.iload_n 1, 1) := by decide +kernel
theorem dX7_shutIn_13 : decode cX7_shutIn 13 = .ok (.aload_n 0, 1) := by decide +kernel
theorem dX7_shutIn_14 : decode cX7_shutIn 14 = .ok (.iload_n 2, 1) := by decide +kernel
theorem dX7_shutIn_15 : decode cX7_shutIn 15 = .ok (.invokevirtual 182, 3) := by decide +kernel
theorem dX7_shutIn_18 : decode cX7_shutIn 18 = .ok (.iconst 1, 1) := by decide +kernel
theorem dX7_shutIn_19 : decode cX7_shutIn 19 = .ok (.aload_n 0, 1) := by decide +kernel
theorem dX7_shutIn_20 : decode cX7_shutIn 20 = .ok (.getfield 22, 3) := by decide +kernel
theorem dX7_shutIn_23 : decode cX7_shutIn 23 = .ok (.iload_n 2, 1) := by decide +kernel
theorem dX7_shutIn_24 : decode cX7_shutIn 24 = .ok (.iaload, 1) := by decide +kernel
theorem dX7_shutIn_25 : decode cX7_shutIn 25 = .ok (.ishl, 1) := by decide +kernel
theorem dX7_shutIn_26 : decode cX7_shutIn 26 = .ok (.if_icmp .ne 9, 3) := by decide +kernel
theorem dX7_shutIn_29 : decode cX7_shutIn 29 = .ok (.iconst 1, 1) := by decide +kernel
theorem dX7_shutIn_30 : decode cX7_shutIn 30 = .ok (.iload_n 2, 1) := by decide +kernel
theorem dX7_shutIn_31 : decode cX7_shutIn 31 = .ok (.ishl, 1) := by decide +kernel
theorem dX7_shutIn_32 : decode cX7_shutIn 32 = .ok (.goto 4, 3) := by decide +kernel
theorem dX7_shutIn_35 : decode cX7_shutIn 35 = .ok (.iconst 0, 1) := by decide +kernel
theorem dX7_shutIn_36 : decode cX7_shutIn 36 = .ok (.ior, 1) := by decide +kernel
theorem dX7_shutIn_37 : decode cX7_shutIn 37 = .ok (.istore_n 1, 1) := by decide +kernel
theorem dX7_shutIn_38 : decode cX7_shutIn 38 = .ok (.iinc 2 1, 3) := by decide +kernel
theorem dX7_shutIn_41 : decode cX7_shutIn 41 = .ok (.goto (-37), 3) := by decide +kernel
theorem dX7_shutIn_44 : decode cX7_shutIn 44 = .ok (.iload_n 1, 1) := by decide +kernel
theorem dX7_shutIn_45 : decode cX7_shutIn 45 = .ok (.ireturn, 1) := by decide +kernel
set_option maxRecDepth 20000 in
theorem ggX7_meet_X7_isTraveller : GoodIn wsX7_meet wsX7_isTraveller := goodIn_r _ [5, 6, 7, 8, 4, 9, 66, 67, 68, 69, 70, 71, 72, 73, 74, 75, 76, 77, 78, 79, 80, 81, 82, 83, 84, 85, 86, 87, 88, 89, 90, 91, 92, 93, 94, 95] (by decide +kernel) (by decide +kernel)
set_option maxRecDepth 20000 in
theorem gX7_meet_X7_isTraveller : GoodIn wsX7_meet (wsV RX7 126 RX7 yX7_isTraveller wsX7_isTraveller) := goodIn_app (goodIn_of _ (by decide +kernel)) ggX7_meet_X7_isTraveller
set_option maxRecDepth 20000 in
theorem ggX7_meet_X7_reachNow : GoodIn wsX7_meet wsX7_reachNow := goodIn_r _ [13, 14, 15, 16, 17, 4, 18, 19, 20, 21, 22, 23, 24, 25, 26, 27, 28, 29, 30, 31, 32, 33, 34, 35, 36, 37, 38, 39, 40, 41, 42, 43, 44, 45, 46, 7, 8, 9, 47, 48, 49, 50, 51, 52, 53, 54, 55, 56, 57, 58, 59, 60, 61, 62, 63, 64, 65, 66, 67, 68, 69, 70, 71, 72, 73, 74, 75, 76, 77, 78, 79, 80, 81, 82, 83, 84, 85, 86, 87, 88, 89, 90, 91, 92, 93, 94, 95] (by decide +kernel) (by decide +kernel)
set_option maxRecDepth 20000 in
theorem gX7_meet_X7_reachNow : GoodIn wsX7_meet (wsV RX7 182 RX7 yX7_reachNow wsX7_reachNow) := goodIn_app (goodIn_of _ (by decide +kernel)) ggX7_meet_X7_reachNow
theorem dX7_meet_0 : decode cX7_meet 0 = .ok (.aload_n 0, 1) := by decide +kernel
theorem dX7_meet_1 : decode cX7_meet 1 = .ok (.iload_n 1, 1) := by decide +kernel
theorem dX7_meet_2 : decode cX7_meet 2 = .ok (.invokevirtual 126, 3) := by decide +kernel
theorem dX7_meet_5 : decode cX7_meet 5 = .ok (.ifCond .eq 25, 3) := by decide +kernel
theorem dX7_meet_8 : decode cX7_meet 8 = .ok (.aload_n 0, 1) := by decide +kernel
theorem dX7_meet_9 : decode cX7_meet 9 = .ok (.iload_n 2, 1) := by decide +kernel
theorem dX7_meet_10 : decode cX7_meet 10 = .ok (.invokevirtual 126, 3) := by decide +kernel
theorem dX7_meet_13 : decode cX7_meet 13 = .ok (.ifCond .eq 17, 3) := by decide +kernel
theorem dX7_meet_16 : decode cX7_meet 16 = .ok (.aload_n 0, 1) := by decide +kernel
theorem dX7_meet_17 : decode cX7_meet 17 = .ok (.iload_n 1, 1) := by decide +kernel
theorem dX7_meet_18 : decode cX7_meet 18 = .ok (.invokevirtual 182, 3) := by decide +kernel
theorem dX7_meet_21 : decode cX7_meet 21 = .ok (.aload_n 0, 1) := by decide +kernel
theorem dX7_meet_22 : decode cX7_meet 22 = .ok (.iload_n 2, 1) := by decide +kernel
theorem dX7_meet_23 : decode cX7_meet 23 = .ok (.invokevirtual 182, 3) := by decide +kernel
theorem dX7_meet_26 : decode cX7_meet 26 = .ok (.iand, 1) := by decide +kernel
theorem dX7_meet_27 : decode cX7_meet 27 = .ok (.goto 4, 3) := by decide +kernel
theorem dX7_meet_30 : decode cX7_meet 30 = .ok (.iconst (-1), 1) := by decide +kernel
theorem dX7_meet_31 : decode cX7_meet 31 = .ok (.ireturn, 1) := by decide +kernel
theorem dX7_layTrial_0 : decode cX7_layTrial 0 = .ok (.iconst 0, 1) := by decide +kernel
theorem dX7_layTrial_1 : decode cX7_layTrial 1 = .ok (.istore_n 1, 1) := by decide +kernel
theorem dX7_layTrial_2 : decode cX7_layTrial 2 = .ok (.iload_n 1, 1) := by decide +kernel
theorem dX7_layTrial_3 : decode cX7_layTrial 3 = .ok (.bipush 14, 2) := by decide +kernel
theorem dX7_layTrial_5 : decode cX7_layTrial 5 = .ok (.if_icmp .ge 24, 3) := by decide +kernel
theorem dX7_layTrial_8 : decode cX7_layTrial 8 = .ok (.aload_n 0, 1) := by decide +kernel
theorem dX7_layTrial_9 : decode cX7_layTrial 9 = .ok (.getfield 22, 3) := by decide +kernel
theorem dX7_layTrial_12 : decode cX7_layTrial 12 = .ok (.bipush 14, 2) := by decide +kernel
theorem dX7_layTrial_14 : decode cX7_layTrial 14 = .ok (.iload_n 1, 1) := by decide +kernel
theorem dX7_layTrial_15 : decode cX7_layTrial 15 = .ok (.iadd, 1) := by decide +kernel
theorem dX7_layTrial_16 : decode cX7_layTrial 16 = .ok (.aload_n 0, 1) := by decide +kernel
theorem dX7_layTrial_17 : decode cX7_layTrial 17 = .ok (.getfield 22, 3) := by decide +kernel
theorem dX7_layTrial_20 : decode cX7_layTrial 20 = .ok (.iload_n 1, 1) := by decide +kernel
theorem dX7_layTrial_21 : decode cX7_layTrial 21 = .ok (.iaload, 1) := by decide +kernel
theorem dX7_layTrial_22 : decode cX7_layTrial 22 = .ok (.iastore, 1) := by decide +kernel
theorem dX7_layTrial_23 : decode cX7_layTrial 23 = .ok (.iinc 1 1, 3) := by decide +kernel
theorem dX7_layTrial_26 : decode cX7_layTrial 26 = .ok (.goto (-24), 3) := by decide +kernel
theorem dX7_layTrial_29 : decode cX7_layTrial 29 = .ok (.return_, 1) := by decide +kernel
set_option maxRecDepth 20000 in
theorem ggX7_tryThing_X7_canStep : GoodIn wsX7_tryThing wsX7_canStep := goodIn_r _ [6, 1, 7, 8, 9, 5, 10, 11, 12, 13, 14, 15, 16, 17, 18, 19, 20, 21, 22, 23, 24, 25, 26, 27, 28, 29, 30, 31, 32, 33, 34, 35, 36, 37, 38, 39, 40, 41, 42, 43, 44, 58, 59, 60, 61, 62, 63, 64, 65, 66, 67, 68, 69, 70, 71, 72, 73, 74, 75, 76, 77, 78, 79, 80, 81, 82, 83, 84, 85, 86, 87] (by decide +kernel) (by decide +kernel)
set_option maxRecDepth 20000 in
theorem gX7_tryThing_X7_canStep : GoodIn wsX7_tryThing (wsV RX7 146 RX7 yX7_canStep wsX7_canStep) := goodIn_app (goodIn_of _ (by decide +kernel)) ggX7_tryThing_X7_canStep
set_option maxRecDepth 20000 in
theorem ggX7_tryThing_X7_stepOn : GoodIn wsX7_tryThing wsX7_stepOn := goodIn_r _ [48, 1, 34, 49, 28, 15, 16, 17, 5, 18, 19, 20, 21, 22, 23, 12, 13, 14, 24, 25, 26, 27, 29, 30, 31, 32, 33, 35, 36, 37, 38, 39, 40, 41, 42, 43, 44, 58, 59, 60, 61, 62, 63, 64, 65, 66, 67, 68, 69, 70, 71, 72, 73, 74, 75, 76, 77, 78, 79, 80, 81, 82, 83, 84, 85, 86, 87] (by decide +kernel) (by decide +kernel)
set_option maxRecDepth 20000 in
theorem gX7_tryThing_X7_stepOn : GoodIn wsX7_tryThing (wsV RX7 153 RX7 yX7_stepOn wsX7_stepOn) := goodIn_app (goodIn_of _ (by decide +kernel)) ggX7_tryThing_X7_stepOn
set_option maxRecDepth 20000 in
theorem ggX7_tryThing_X7_isTraveller : GoodIn wsX7_tryThing wsX7_isTraveller := goodIn_r _ [10, 11, 12, 13, 5, 14, 58, 59, 60, 61, 62, 63, 64, 65, 66, 67, 68, 69, 70, 71, 72, 73, 74, 75, 76, 77, 78, 79, 80, 81, 82, 83, 84, 85, 86, 87] (by decide +kernel) (by decide +kernel)
set_option maxRecDepth 20000 in
theorem gX7_tryThing_X7_isTraveller : GoodIn wsX7_tryThing (wsV RX7 126 RX7 yX7_isTraveller wsX7_isTraveller) := goodIn_app (goodIn_of _ (by decide +kernel)) ggX7_tryThing_X7_isTraveller
set_option maxRecDepth 20000 in
theorem ggX7_tryThing_X7_restOn : GoodIn wsX7_tryThing wsX7_restOn := goodIn_r _ [53, 1, 54, 55, 56, 5, 57, 49, 39, 40, 41, 58, 59, 60, 61, 62, 63, 64, 65, 66, 67, 68, 69, 70, 71, 72, 73, 74, 75, 76, 77, 78, 79, 80, 81, 82, 83, 84, 85, 86, 87] (by decide +kernel) (by decide +kernel)
set_option maxRecDepth 20000 in
theorem gX7_tryThing_X7_restOn : GoodIn wsX7_tryThing (wsV RX7 157 RX7 yX7_restOn wsX7_restOn) := goodIn_app (goodIn_of _ (by decide +kernel)) ggX7_tryThing_X7_restOn
set_option maxRecDepth 20000 in
theorem ggX7_tryThing_X7_isPleat : GoodIn wsX7_tryThing wsX7_isPleat := goodIn_r _ [22, 23, 12, 13, 5, 14, 58, 59, 60, 61, 62, 63, 64, 65, 66, 67, 68, 69, 70, 71, 72, 73, 74, 75, 76, 77, 78, 79, 80, 81, 82, 83, 84, 85, 86, 87] (by decide +kernel) (by decide +kernel)
set_option maxRecDepth 20000 in
theorem gX7_tryThing_X7_isPleat : GoodIn wsX7_tryThing (wsV RX7 122 RX7 yX7_isPleat wsX7_isPleat) := goodIn_app (goodIn_of _ (by decide +kernel)) ggX7_tryThing_X7_isPleat
set_option maxRecDepth 20000 in
theorem ggX7_tryThing_X7_has : GoodIn wsX7_tryThing wsX7_has := goodIn_r _ [38] (by decide +kernel) (by decide +kernel)
set_option maxRecDepth 20000 in
theorem gX7_tryThing_X7_has : GoodIn wsX7_tryThing (va_wsS RX7 108 yX7_has wsX7_has) := goodIn_app (goodIn_of _ (by decide +kernel)) ggX7_tryThing_X7_has
theorem dX7_tryThing_0 : decode cX7_tryThing 0 = .ok (.iload_n 1, 1) := by decide +kernel
theorem dX7_tryThing_1 : decode cX7_tryThing 1 = .ok (.tableswitch 257 1 5 #[35, 90, 123, 181, 230], 35) := by decide +kernel
theorem dX7_tryThing_36 : decode cX7_tryThing 36 = .ok (.iload_n 3, 1) := by decide +kernel
theorem dX7_tryThing_37 : decode cX7_tryThing 37 = .ok (.iconst 2, 1) := by decide +kernel
theorem dX7_tryThing_38 : decode cX7_tryThing 38 = .ok (.if_icmp .ge 26, 3) := by decide +kernel
theorem dX7_tryThing_41 : decode cX7_tryThing 41 = .ok (.aload_n 0, 1) := by decide +kernel
theorem dX7_tryThing_42 : decode cX7_tryThing 42 = .ok (.iconst 1, 1) := by decide +kernel
theorem dX7_tryThing_43 : decode cX7_tryThing 43 = .ok (.iload_n 2, 1) := by decide +kernel
theorem dX7_tryThing_44 : decode cX7_tryThing 44 = .ok (.iload_n 3, 1) := by decide +kernel
theorem dX7_tryThing_45 : decode cX7_tryThing 45 = .ok (.iconst 1, 1) := by decide +kernel
theorem dX7_tryThing_46 : decode cX7_tryThing 46 = .ok (.if_icmp .ne 7, 3) := by decide +kernel
theorem dX7_tryThing_49 : decode cX7_tryThing 49 = .ok (.iconst 1, 1) := by decide +kernel
theorem dX7_tryThing_50 : decode cX7_tryThing 50 = .ok (.goto 4, 3) := by decide +kernel
theorem dX7_tryThing_53 : decode cX7_tryThing 53 = .ok (.iconst 0, 1) := by decide +kernel
theorem dX7_tryThing_54 : decode cX7_tryThing 54 = .ok (.invokevirtual 146, 3) := by decide +kernel
theorem dX7_tryThing_57 : decode cX7_tryThing 57 = .ok (.ifCond .eq 7, 3) := by decide +kernel
theorem dX7_tryThing_60 : decode cX7_tryThing 60 = .ok (.iconst 1, 1) := by decide +kernel
theorem dX7_tryThing_61 : decode cX7_tryThing 61 = .ok (.goto 4, 3) := by decide +kernel
theorem dX7_tryThing_64 : decode cX7_tryThing 64 = .ok (.iconst 0, 1) := by decide +kernel
theorem dX7_tryThing_65 : decode cX7_tryThing 65 = .ok (.istore 4, 2) := by decide +kernel
theorem dX7_tryThing_67 : decode cX7_tryThing 67 = .ok (.iload 4, 2) := by decide +kernel
theorem dX7_tryThing_69 : decode cX7_tryThing 69 = .ok (.ifCond .eq 19, 3) := by decide +kernel
theorem dX7_tryThing_72 : decode cX7_tryThing 72 = .ok (.aload_n 0, 1) := by decide +kernel
theorem dX7_tryThing_73 : decode cX7_tryThing 73 = .ok (.iconst 1, 1) := by decide +kernel
theorem dX7_tryThing_74 : decode cX7_tryThing 74 = .ok (.iload_n 2, 1) := by decide +kernel
theorem dX7_tryThing_75 : decode cX7_tryThing 75 = .ok (.iload_n 3, 1) := by decide +kernel
theorem dX7_tryThing_76 : decode cX7_tryThing 76 = .ok (.iconst 1, 1) := by decide +kernel
theorem dX7_tryThing_77 : decode cX7_tryThing 77 = .ok (.if_icmp .ne 7, 3) := by decide +kernel
theorem dX7_tryThing_80 : decode cX7_tryThing 80 = .ok (.iconst 1, 1) := by decide +kernel
theorem dX7_tryThing_81 : decode cX7_tryThing 81 = .ok (.goto 4, 3) := by decide +kernel
theorem dX7_tryThing_84 : decode cX7_tryThing 84 = .ok (.iconst 0, 1) := by decide +kernel
theorem dX7_tryThing_85 : decode cX7_tryThing 85 = .ok (.invokevirtual 153, 3) := by decide +kernel
theorem dX7_tryThing_88 : decode cX7_tryThing 88 = .ok (.iload 4, 2) := by decide +kernel
theorem dX7_tryThing_90 : decode cX7_tryThing 90 = .ok (.ireturn, 1) := by decide +kernel
theorem dX7_tryThing_91 : decode cX7_tryThing 91 = .ok (.iload_n 2, 1) := by decide +kernel
theorem dX7_tryThing_92 : decode cX7_tryThing 92 = .ok (.ifCond .ne 15, 3) := by decide +kernel
theorem dX7_tryThing_95 : decode cX7_tryThing 95 = .ok (.aload_n 0, 1) := by decide +kernel
theorem dX7_tryThing_96 : decode cX7_tryThing 96 = .ok (.iload_n 3, 1) := by decide +kernel
theorem dX7_tryThing_97 : decode cX7_tryThing 97 = .ok (.invokevirtual 126, 3) := by decide +kernel
theorem dX7_tryThing_100 : decode cX7_tryThing 100 = .ok (.ifCond .eq 7, 3) := by decide +kernel
theorem dX7_tryThing_103 : decode cX7_tryThing 103 = .ok (.iconst 1, 1) := by decide +kernel
theorem dX7_tryThing_104 : decode cX7_tryThing 104 = .ok (.goto 4, 3) := by decide +kernel
theorem dX7_tryThing_107 : decode cX7_tryThing 107 = .ok (.iconst 0, 1) := by decide +kernel
theorem dX7_tryThing_108 : decode cX7_tryThing 108 = .ok (.istore 5, 2) := by decide +kernel
theorem dX7_tryThing_110 : decode cX7_tryThing 110 = .ok (.iload 5, 2) := by decide +kernel
theorem dX7_tryThing_112 : decode cX7_tryThing 112 = .ok (.ifCond .eq 9, 3) := by decide +kernel
theorem dX7_tryThing_115 : decode cX7_tryThing 115 = .ok (.aload_n 0, 1) := by decide +kernel
theorem dX7_tryThing_116 : decode cX7_tryThing 116 = .ok (.iconst 1, 1) := by decide +kernel
theorem dX7_tryThing_117 : decode cX7_tryThing 117 = .ok (.iload_n 3, 1) := by decide +kernel
theorem dX7_tryThing_118 : decode cX7_tryThing 118 = .ok (.invokevirtual 157, 3) := by decide +kernel
theorem dX7_tryThing_121 : decode cX7_tryThing 121 = .ok (.iload 5, 2) := by decide +kernel
theorem dX7_tryThing_123 : decode cX7_tryThing 123 = .ok (.ireturn, 1) := by decide +kernel
theorem dX7_tryThing_124 : decode cX7_tryThing 124 = .ok (.iload_n 2, 1) := by decide +kernel
theorem dX7_tryThing_125 : decode cX7_tryThing 125 = .ok (.ifCond .ne 29, 3) := by decide +kernel
theorem dX7_tryThing_128 : decode cX7_tryThing 128 = .ok (.aload_n 0, 1) := by decide +kernel
theorem dX7_tryThing_129 : decode cX7_tryThing 129 = .ok (.iload_n 3, 1) := by decide +kernel
theorem dX7_tryThing_130 : decode cX7_tryThing 130 = .ok (.invokevirtual 122, 3) := by decide +kernel
theorem dX7_tryThing_133 : decode cX7_tryThing 133 = .ok (.ifCond .eq 21, 3) := by decide +kernel
theorem dX7_tryThing_136 : decode cX7_tryThing 136 = .ok (.aload_n 0, 1) := by decide +kernel
theorem dX7_tryThing_137 : decode cX7_tryThing 137 = .ok (.getfield 22, 3) := by decide +kernel
theorem dX7_tryThing_140 : decode cX7_tryThing 140 = .ok (.bipush 24, 2) := by decide +kernel
theorem dX7_tryThing_142 : decode cX7_tryThing 142 = .ok (.iaload, 1) := by decide +kernel
theorem dX7_tryThing_143 : decode cX7_tryThing 143 = .ok (.iload_n 3, 1) := by decide +kernel
theorem dX7_tryThing_144 : decode cX7_tryThing 144 = .ok (.invokestatic 108, 3) := by decide +kernel
theorem dX7_tryThing_147 : decode cX7_tryThing 147 = .ok (.ifCond .ne 7, 3) := by decide +kernel
theorem dX7_tryThing_150 : decode cX7_tryThing 150 = .ok (.iconst 1, 1) := by decide +kernel
theorem dX7_tryThing_151 : decode cX7_tryThing 151 = .ok (.goto 4, 3) := by decide +kernel
theorem dX7_tryThing_154 : decode cX7_tryThing 154 = .ok (.iconst 0, 1) := by decide +kernel
theorem dX7_tryThing_155 : decode cX7_tryThing 155 = .ok (.istore 6, 2) := by decide +kernel
theorem dX7_tryThing_157 : decode cX7_tryThing 157 = .ok (.aload_n 0, 1) := by decide +kernel
theorem dX7_tryThing_158 : decode cX7_tryThing 158 = .ok (.getfield 22, 3) := by decide +kernel
theorem dX7_tryThing_161 : decode cX7_tryThing 161 = .ok (.bipush 24, 2) := by decide +kernel
theorem dX7_tryThing_163 : decode cX7_tryThing 163 = .ok (.dup2, 1) := by decide +kernel
theorem dX7_tryThing_164 : decode cX7_tryThing 164 = .ok (.iaload, 1) := by decide +kernel
theorem dX7_tryThing_165 : decode cX7_tryThing 165 = .ok (.iload 6, 2) := by decide +kernel
theorem dX7_tryThing_167 : decode cX7_tryThing 167 = .ok (.ifCond .eq 9, 3) := by decide +kernel
theorem dX7_tryThing_170 : decode cX7_tryThing 170 = .ok (.iconst 1, 1) := by decide +kernel
theorem dX7_tryThing_171 : decode cX7_tryThing 171 = .ok (.iload_n 3, 1) := by decide +kernel
theorem dX7_tryThing_172 : decode cX7_tryThing 172 = .ok (.ishl, 1) := by decide +kernel
theorem dX7_tryThing_173 : decode cX7_tryThing 173 = .ok (.goto 4, 3) := by decide +kernel
theorem dX7_tryThing_176 : decode cX7_tryThing 176 = .ok (.iconst 0, 1) := by decide +kernel
theorem dX7_tryThing_177 : decode cX7_tryThing 177 = .ok (.ior, 1) := by decide +kernel
theorem dX7_tryThing_178 : decode cX7_tryThing 178 = .ok (.iastore, 1) := by decide +kernel
theorem dX7_tryThing_179 : decode cX7_tryThing 179 = .ok (.iload 6, 2) := by decide +kernel
theorem dX7_tryThing_181 : decode cX7_tryThing 181 = .ok (.ireturn, 1) := by decide +kernel
theorem dX7_tryThing_182 : decode cX7_tryThing 182 = .ok (.iload_n 2, 1) := by decide +kernel
theorem dX7_tryThing_183 : decode cX7_tryThing 183 = .ok (.ifCond .ne 22, 3) := by decide +kernel
theorem dX7_tryThing_186 : decode cX7_tryThing 186 = .ok (.iload_n 3, 1) := by decide +kernel
theorem dX7_tryThing_187 : decode cX7_tryThing 187 = .ok (.ifCond .ne 18, 3) := by decide +kernel
theorem dX7_tryThing_190 : decode cX7_tryThing 190 = .ok (.aload_n 0, 1) := by decide +kernel
theorem dX7_tryThing_191 : decode cX7_tryThing 191 = .ok (.getfield 22, 3) := by decide +kernel
theorem dX7_tryThing_194 : decode cX7_tryThing 194 = .ok (.bipush 26, 2) := by decide +kernel
theorem dX7_tryThing_196 : decode cX7_tryThing 196 = .ok (.iaload, 1) := by decide +kernel
theorem dX7_tryThing_197 : decode cX7_tryThing 197 = .ok (.iconst 5, 1) := by decide +kernel
theorem dX7_tryThing_198 : decode cX7_tryThing 198 = .ok (.if_icmp .ge 7, 3) := by decide +kernel
theorem dX7_tryThing_201 : decode cX7_tryThing 201 = .ok (.iconst 1, 1) := by decide +kernel
theorem dX7_tryThing_202 : decode cX7_tryThing 202 = .ok (.goto 4, 3) := by decide +kernel
theorem dX7_tryThing_205 : decode cX7_tryThing 205 = .ok (.iconst 0, 1) := by decide +kernel
theorem dX7_tryThing_206 : decode cX7_tryThing 206 = .ok (.istore 7, 2) := by decide +kernel
theorem dX7_tryThing_208 : decode cX7_tryThing 208 = .ok (.aload_n 0, 1) := by decide +kernel
theorem dX7_tryThing_209 : decode cX7_tryThing 209 = .ok (.getfield 22, 3) := by decide +kernel
theorem dX7_tryThing_212 : decode cX7_tryThing 212 = .ok (.bipush 26, 2) := by decide +kernel
theorem dX7_tryThing_214 : decode cX7_tryThing 214 = .ok (.dup2, 1) := by decide +kernel
theorem dX7_tryThing_215 : decode cX7_tryThing 215 = .ok (.iaload, 1) := by decide +kernel
theorem dX7_tryThing_216 : decode cX7_tryThing 216 = .ok (.iload 7, 2) := by decide +kernel
theorem dX7_tryThing_218 : decode cX7_tryThing 218 = .ok (.ifCond .eq 7, 3) := by decide +kernel
theorem dX7_tryThing_221 : decode cX7_tryThing 221 = .ok (.iconst 1, 1) := by decide +kernel
theorem dX7_tryThing_222 : decode cX7_tryThing 222 = .ok (.goto 4, 3) := by decide +kernel
theorem dX7_tryThing_225 : decode cX7_tryThing 225 = .ok (.iconst 0, 1) := by decide +kernel
theorem dX7_tryThing_226 : decode cX7_tryThing 226 = .ok (.iadd, 1) := by decide +kernel
theorem dX7_tryThing_227 : decode cX7_tryThing 227 = .ok (.iastore, 1) := by decide +kernel
theorem dX7_tryThing_228 : decode cX7_tryThing 228 = .ok (.iload 7, 2) := by decide +kernel
theorem dX7_tryThing_230 : decode cX7_tryThing 230 = .ok (.ireturn, 1) := by decide +kernel
theorem dX7_tryThing_231 : decode cX7_tryThing 231 = .ok (.aload_n 0, 1) := by decide +kernel
theorem dX7_tryThing_232 : decode cX7_tryThing 232 = .ok (.iload_n 2, 1) := by decide +kernel
theorem dX7_tryThing_233 : decode cX7_tryThing 233 = .ok (.invokevirtual 126, 3) := by decide +kernel
theorem dX7_tryThing_236 : decode cX7_tryThing 236 = .ok (.ifCond .eq 20, 3) := by decide +kernel
theorem dX7_tryThing_239 : decode cX7_tryThing 239 = .ok (.aload_n 0, 1) := by decide +kernel
theorem dX7_tryThing_240 : decode cX7_tryThing 240 = .ok (.getfield 22, 3) := by decide +kernel
theorem dX7_tryThing_243 : decode cX7_tryThing 243 = .ok (.bipush 14, 2) := by decide +kernel
theorem dX7_tryThing_245 : decode cX7_tryThing 245 = .ok (.iload_n 2, 1) := by decide +kernel
theorem dX7_tryThing_246 : decode cX7_tryThing 246 = .ok (.iadd, 1) := by decide +kernel
theorem dX7_tryThing_247 : decode cX7_tryThing 247 = .ok (.iaload, 1) := by decide +kernel
theorem dX7_tryThing_248 : decode cX7_tryThing 248 = .ok (.iload_n 3, 1) := by decide +kernel
theorem dX7_tryThing_249 : decode cX7_tryThing 249 = .ok (.if_icmp .ne 7, 3) := by decide +kernel
theorem dX7_tryThing_252 : decode cX7_tryThing 252 = .ok (.iconst 1, 1) := by decide +kernel
theorem dX7_tryThing_253 : decode cX7_tryThing 253 = .ok (.goto 4, 3) := by decide +kernel
theorem dX7_tryThing_256 : decode cX7_tryThing 256 = .ok (.iconst 0, 1) := by decide +kernel
theorem dX7_tryThing_257 : decode cX7_tryThing 257 = .ok (.ireturn, 1) := by decide +kernel
theorem dX7_tryThing_258 : decode cX7_tryThing 258 = .ok (.iconst 0, 1) := by decide +kernel
theorem dX7_tryThing_259 : decode cX7_tryThing 259 = .ok (.ireturn, 1) := by decide +kernel
theorem dX7_thousandTo_0 : decode cX7_thousandTo 0 = .ok (.lconst 1, 1) := by decide +kernel
theorem dX7_thousandTo_1 : decode cX7_thousandTo 1 = .ok (.lstore_n 1, 1) := by decide +kernel
theorem dX7_thousandTo_2 : decode cX7_thousandTo 2 = .ok (.iconst 0, 1) := by decide +kernel
theorem dX7_thousandTo_3 : decode cX7_thousandTo 3 = .ok (.istore_n 3, 1) := by decide +kernel
theorem dX7_thousandTo_4 : decode cX7_thousandTo 4 = .ok (.iload_n 3, 1) := by decide +kernel
theorem dX7_thousandTo_5 : decode cX7_thousandTo 5 = .ok (.iload_n 0, 1) := by decide +kernel
theorem dX7_thousandTo_6 : decode cX7_thousandTo 6 = .ok (.if_icmp .ge 15, 3) := by decide +kernel
theorem dX7_thousandTo_9 : decode cX7_thousandTo 9 = .ok (.lload_n 1, 1) := by decide +kernel
theorem dX7_thousandTo_10 : decode cX7_thousandTo 10 = .ok (.ldc2_w 192, 3) := by decide +kernel
