theorem dX4_doTold_1 : decode cX4_doTold 1 = .ok (.tableswitch 148 1 5 #[35, 64, 82, 100, 121], 35) := by decide +kernel
theorem dX4_doTold_36 : decode cX4_doTold 36 = .ok (.iload_n 3, 1) := by decide +kernel
theorem dX4_doTold_37 : decode cX4_doTold 37 = .ok (.iconst 1, 1) := by decide +kernel
theorem dX4_doTold_38 : decode cX4_doTold 38 = .ok (.if_icmp .gt 25, 3) := by decide +kernel
theorem dX4_doTold_41 : decode cX4_doTold 41 = .ok (.aload_n 0, 1) := by decide +kernel
theorem dX4_doTold_42 : decode cX4_doTold 42 = .ok (.iload_n 2, 1) := by decide +kernel
theorem dX4_doTold_43 : decode cX4_doTold 43 = .ok (.iload_n 3, 1) := by decide +kernel
theorem dX4_doTold_44 : decode cX4_doTold 44 = .ok (.iconst 1, 1) := by decide +kernel
theorem dX4_doTold_45 : decode cX4_doTold 45 = .ok (.if_icmp .ne 7, 3) := by decide +kernel
theorem dX4_doTold_48 : decode cX4_doTold 48 = .ok (.iconst 1, 1) := by decide +kernel
theorem dX4_doTold_49 : decode cX4_doTold 49 = .ok (.goto 4, 3) := by decide +kernel
theorem dX4_doTold_52 : decode cX4_doTold 52 = .ok (.iconst 0, 1) := by decide +kernel
theorem dX4_doTold_53 : decode cX4_doTold 53 = .ok (.invokevirtual 107, 3) := by decide +kernel
theorem dX4_doTold_56 : decode cX4_doTold 56 = .ok (.ifCond .eq 7, 3) := by decide +kernel
theorem dX4_doTold_59 : decode cX4_doTold 59 = .ok (.iconst 1, 1) := by decide +kernel
theorem dX4_doTold_60 : decode cX4_doTold 60 = .ok (.goto 4, 3) := by decide +kernel
theorem dX4_doTold_63 : decode cX4_doTold 63 = .ok (.iconst 0, 1) := by decide +kernel
theorem dX4_doTold_64 : decode cX4_doTold 64 = .ok (.ireturn, 1) := by decide +kernel
theorem dX4_doTold_65 : decode cX4_doTold 65 = .ok (.iload_n 2, 1) := by decide +kernel
theorem dX4_doTold_66 : decode cX4_doTold 66 = .ok (.ifCond .ne 15, 3) := by decide +kernel
theorem dX4_doTold_69 : decode cX4_doTold 69 = .ok (.aload_n 0, 1) := by decide +kernel
theorem dX4_doTold_70 : decode cX4_doTold 70 = .ok (.iload_n 3, 1) := by decide +kernel
theorem dX4_doTold_71 : decode cX4_doTold 71 = .ok (.invokevirtual 110, 3) := by decide +kernel
theorem dX4_doTold_74 : decode cX4_doTold 74 = .ok (.ifCond .eq 7, 3) := by decide +kernel
theorem dX4_doTold_77 : decode cX4_doTold 77 = .ok (.iconst 1, 1) := by decide +kernel
theorem dX4_doTold_78 : decode cX4_doTold 78 = .ok (.goto 4, 3) := by decide +kernel
theorem dX4_doTold_81 : decode cX4_doTold 81 = .ok (.iconst 0, 1) := by decide +kernel
theorem dX4_doTold_82 : decode cX4_doTold 82 = .ok (.ireturn, 1) := by decide +kernel
theorem dX4_doTold_83 : decode cX4_doTold 83 = .ok (.iload_n 2, 1) := by decide +kernel
theorem dX4_doTold_84 : decode cX4_doTold 84 = .ok (.ifCond .ne 15, 3) := by decide +kernel
theorem dX4_doTold_87 : decode cX4_doTold 87 = .ok (.aload_n 0, 1) := by decide +kernel
theorem dX4_doTold_88 : decode cX4_doTold 88 = .ok (.iload_n 3, 1) := by decide +kernel
theorem dX4_doTold_89 : decode cX4_doTold 89 = .ok (.invokevirtual 113, 3) := by decide +kernel
theorem dX4_doTold_92 : decode cX4_doTold 92 = .ok (.ifCond .eq 7, 3) := by decide +kernel
theorem dX4_doTold_95 : decode cX4_doTold 95 = .ok (.iconst 1, 1) := by decide +kernel
theorem dX4_doTold_96 : decode cX4_doTold 96 = .ok (.goto 4, 3) := by decide +kernel
theorem dX4_doTold_99 : decode cX4_doTold 99 = .ok (.iconst 0, 1) := by decide +kernel
theorem dX4_doTold_100 : decode cX4_doTold 100 = .ok (.ireturn, 1) := by decide +kernel
theorem dX4_doTold_101 : decode cX4_doTold 101 = .ok (.iload_n 2, 1) := by decide +kernel
theorem dX4_doTold_102 : decode cX4_doTold 102 = .ok (.ifCond .ne 18, 3) := by decide +kernel
theorem dX4_doTold_105 : decode cX4_doTold 105 = .ok (.iload_n 3, 1) := by decide +kernel
theorem dX4_doTold_106 : decode cX4_doTold 106 = .ok (.ifCond .ne 14, 3) := by decide +kernel
theorem dX4_doTold_109 : decode cX4_doTold 109 = .ok (.aload_n 0, 1) := by decide +kernel
theorem dX4_doTold_110 : decode cX4_doTold 110 = .ok (.invokevirtual 116, 3) := by decide +kernel
theorem dX4_doTold_113 : decode cX4_doTold 113 = .ok (.ifCond .eq 7, 3) := by decide +kernel
theorem dX4_doTold_116 : decode cX4_doTold 116 = .ok (.iconst 1, 1) := by decide +kernel
theorem dX4_doTold_117 : decode cX4_doTold 117 = .ok (.goto 4, 3) := by decide +kernel
theorem dX4_doTold_120 : decode cX4_doTold 120 = .ok (.iconst 0, 1) := by decide +kernel
theorem dX4_doTold_121 : decode cX4_doTold 121 = .ok (.ireturn, 1) := by decide +kernel
theorem dX4_doTold_122 : decode cX4_doTold 122 = .ok (.aload_n 0, 1) := by decide +kernel
theorem dX4_doTold_123 : decode cX4_doTold 123 = .ok (.getfield 18, 3) := by decide +kernel
theorem dX4_doTold_126 : decode cX4_doTold 126 = .ok (.iload_n 2, 1) := by decide +kernel
theorem dX4_doTold_127 : decode cX4_doTold 127 = .ok (.invokevirtual 73, 3) := by decide +kernel
theorem dX4_doTold_130 : decode cX4_doTold 130 = .ok (.ifCond .eq 17, 3) := by decide +kernel
theorem dX4_doTold_133 : decode cX4_doTold 133 = .ok (.aload_n 0, 1) := by decide +kernel
theorem dX4_doTold_134 : decode cX4_doTold 134 = .ok (.getfield 9, 3) := by decide +kernel
theorem dX4_doTold_137 : decode cX4_doTold 137 = .ok (.iload_n 2, 1) := by decide +kernel
theorem dX4_doTold_138 : decode cX4_doTold 138 = .ok (.iaload, 1) := by decide +kernel
theorem dX4_doTold_139 : decode cX4_doTold 139 = .ok (.iload_n 3, 1) := by decide +kernel
theorem dX4_doTold_140 : decode cX4_doTold 140 = .ok (.if_icmp .ne 7, 3) := by decide +kernel
theorem dX4_doTold_143 : decode cX4_doTold 143 = .ok (.iconst 1, 1) := by decide +kernel
theorem dX4_doTold_144 : decode cX4_doTold 144 = .ok (.goto 4, 3) := by decide +kernel
theorem dX4_doTold_147 : decode cX4_doTold 147 = .ok (.iconst 0, 1) := by decide +kernel
theorem dX4_doTold_148 : decode cX4_doTold 148 = .ok (.ireturn, 1) := by decide +kernel
theorem dX4_doTold_149 : decode cX4_doTold 149 = .ok (.iconst 0, 1) := by decide +kernel
theorem dX4_doTold_150 : decode cX4_doTold 150 = .ok (.ireturn, 1) := by decide +kernel
set_option maxRecDepth 20000 in
theorem ggX4_doDrawn_X4_stepIfItCan : GoodIn wsX4_doDrawn wsX4_stepIfItCan := goodIn_r _ [5, 6, 7, 8, 4, 9, 10, 11, 12, 13, 14, 15, 16, 17, 18, 19, 20, 21, 22, 23, 24, 25, 26, 27, 28, 29, 30, 31, 32, 33, 34, 35, 36, 37, 38, 39, 40, 41, 42, 43, 44, 45, 46, 47, 48, 49, 50, 51, 52, 53, 54, 55, 94, 95, 96, 97, 98, 99, 100, 101, 102, 103, 104, 105, 106, 107] (by decide +kernel) (by decide +kernel)
set_option maxRecDepth 20000 in
theorem gX4_doDrawn_X4_stepIfItCan : GoodIn wsX4_doDrawn (wsV RX4 107 RX4 yX4_stepIfItCan wsX4_stepIfItCan) := goodIn_app (goodIn_of _ (by decide +kernel)) ggX4_doDrawn_X4_stepIfItCan
set_option maxRecDepth 20000 in
theorem ggX4_doDrawn_X4_restIfItCan : GoodIn wsX4_doDrawn wsX4_restIfItCan := goodIn_r _ [59, 10, 12, 13, 14, 15, 16, 17, 60, 61, 62, 4, 63, 11, 54, 37, 55, 64, 65, 66, 67, 68, 69, 70, 71, 72, 73, 94, 95, 96, 97, 98, 99, 100, 101, 102, 103, 104, 105, 106, 107] (by decide +kernel) (by decide +kernel)
set_option maxRecDepth 20000 in
theorem gX4_doDrawn_X4_restIfItCan : GoodIn wsX4_doDrawn (wsV RX4 110 RX4 yX4_restIfItCan wsX4_restIfItCan) := goodIn_app (goodIn_of _ (by decide +kernel)) ggX4_doDrawn_X4_restIfItCan
set_option maxRecDepth 20000 in
theorem ggX4_doDrawn_X4_greaseIfItCan : GoodIn wsX4_doDrawn wsX4_greaseIfItCan := goodIn_r _ [77, 78, 79, 80, 4, 81, 10, 39, 28, 29, 30, 15, 31, 32, 82, 83, 84, 85, 94, 95, 96, 97, 98, 99, 100, 101, 102, 103, 104, 105, 106, 107] (by decide +kernel) (by decide +kernel)
set_option maxRecDepth 20000 in
theorem gX4_doDrawn_X4_greaseIfItCan : GoodIn wsX4_doDrawn (wsV RX4 113 RX4 yX4_greaseIfItCan wsX4_greaseIfItCan) := goodIn_app (goodIn_of _ (by decide +kernel)) ggX4_doDrawn_X4_greaseIfItCan
set_option maxRecDepth 20000 in
theorem ggX4_doDrawn_X4_freezeIfItCan : GoodIn wsX4_doDrawn wsX4_freezeIfItCan := goodIn_r _ [89, 38, 90, 91, 92, 4, 93, 94, 95, 96, 97, 98, 99, 100] (by decide +kernel) (by decide +kernel)
set_option maxRecDepth 20000 in
theorem gX4_doDrawn_X4_freezeIfItCan : GoodIn wsX4_doDrawn (wsV RX4 116 RX4 yX4_freezeIfItCan wsX4_freezeIfItCan) := goodIn_app (goodIn_of _ (by decide +kernel)) ggX4_doDrawn_X4_freezeIfItCan
theorem dX4_doDrawn_0 : decode cX4_doDrawn 0 = .ok (.iload_n 1, 1) := by decide +kernel
theorem dX4_doDrawn_1 : decode cX4_doDrawn 1 = .ok (.bipush 10, 2) := by decide +kernel
theorem dX4_doDrawn_3 : decode cX4_doDrawn 3 = .ok (.if_icmp .ge 26, 3) := by decide +kernel
theorem dX4_doDrawn_6 : decode cX4_doDrawn 6 = .ok (.aload_n 0, 1) := by decide +kernel
theorem dX4_doDrawn_7 : decode cX4_doDrawn 7 = .ok (.iload_n 1, 1) := by decide +kernel
theorem dX4_doDrawn_8 : decode cX4_doDrawn 8 = .ok (.iconst 2, 1) := by decide +kernel
theorem dX4_doDrawn_9 : decode cX4_doDrawn 9 = .ok (.idiv, 1) := by decide +kernel
theorem dX4_doDrawn_10 : decode cX4_doDrawn 10 = .ok (.iload_n 1, 1) := by decide +kernel
theorem dX4_doDrawn_11 : decode cX4_doDrawn 11 = .ok (.iconst 2, 1) := by decide +kernel
theorem dX4_doDrawn_12 : decode cX4_doDrawn 12 = .ok (.irem, 1) := by decide +kernel
theorem dX4_doDrawn_13 : decode cX4_doDrawn 13 = .ok (.iconst 1, 1) := by decide +kernel
theorem dX4_doDrawn_14 : decode cX4_doDrawn 14 = .ok (.if_icmp .ne 7, 3) := by decide +kernel
theorem dX4_doDrawn_17 : decode cX4_doDrawn 17 = .ok (.iconst 1, 1) := by decide +kernel
theorem dX4_doDrawn_18 : decode cX4_doDrawn 18 = .ok (.goto 4, 3) := by decide +kernel
theorem dX4_doDrawn_21 : decode cX4_doDrawn 21 = .ok (.iconst 0, 1) := by decide +kernel
theorem dX4_doDrawn_22 : decode cX4_doDrawn 22 = .ok (.invokevirtual 107, 3) := by decide +kernel
theorem dX4_doDrawn_25 : decode cX4_doDrawn 25 = .ok (.pop, 1) := by decide +kernel
theorem dX4_doDrawn_26 : decode cX4_doDrawn 26 = .ok (.goto 44, 3) := by decide +kernel
theorem dX4_doDrawn_29 : decode cX4_doDrawn 29 = .ok (.iload_n 1, 1) := by decide +kernel
theorem dX4_doDrawn_30 : decode cX4_doDrawn 30 = .ok (.bipush 15, 2) := by decide +kernel
theorem dX4_doDrawn_32 : decode cX4_doDrawn 32 = .ok (.if_icmp .ge 15, 3) := by decide +kernel
theorem dX4_doDrawn_35 : decode cX4_doDrawn 35 = .ok (.aload_n 0, 1) := by decide +kernel
theorem dX4_doDrawn_36 : decode cX4_doDrawn 36 = .ok (.iload_n 1, 1) := by decide +kernel
theorem dX4_doDrawn_37 : decode cX4_doDrawn 37 = .ok (.bipush 10, 2) := by decide +kernel
theorem dX4_doDrawn_39 : decode cX4_doDrawn 39 = .ok (.isub, 1) := by decide +kernel
theorem dX4_doDrawn_40 : decode cX4_doDrawn 40 = .ok (.invokevirtual 110, 3) := by decide +kernel
theorem dX4_doDrawn_43 : decode cX4_doDrawn 43 = .ok (.pop, 1) := by decide +kernel
theorem dX4_doDrawn_44 : decode cX4_doDrawn 44 = .ok (.goto 26, 3) := by decide +kernel
theorem dX4_doDrawn_47 : decode cX4_doDrawn 47 = .ok (.iload_n 1, 1) := by decide +kernel
theorem dX4_doDrawn_48 : decode cX4_doDrawn 48 = .ok (.bipush 25, 2) := by decide +kernel
theorem dX4_doDrawn_50 : decode cX4_doDrawn 50 = .ok (.if_icmp .ge 15, 3) := by decide +kernel
theorem dX4_doDrawn_53 : decode cX4_doDrawn 53 = .ok (.aload_n 0, 1) := by decide +kernel
theorem dX4_doDrawn_54 : decode cX4_doDrawn 54 = .ok (.iload_n 1, 1) := by decide +kernel
theorem dX4_doDrawn_55 : decode cX4_doDrawn 55 = .ok (.bipush 15, 2) := by decide +kernel
theorem dX4_doDrawn_57 : decode cX4_doDrawn 57 = .ok (.isub, 1) := by decide +kernel
theorem dX4_doDrawn_58 : decode cX4_doDrawn 58 = .ok (.invokevirtual 113, 3) := by decide +kernel
theorem dX4_doDrawn_61 : decode cX4_doDrawn 61 = .ok (.pop, 1) := by decide +kernel
theorem dX4_doDrawn_62 : decode cX4_doDrawn 62 = .ok (.goto 8, 3) := by decide +kernel
theorem dX4_doDrawn_65 : decode cX4_doDrawn 65 = .ok (.aload_n 0, 1) := by decide +kernel
theorem dX4_doDrawn_66 : decode cX4_doDrawn 66 = .ok (.invokevirtual 116, 3) := by decide +kernel
theorem dX4_doDrawn_69 : decode cX4_doDrawn 69 = .ok (.pop, 1) := by decide +kernel
theorem dX4_doDrawn_70 : decode cX4_doDrawn 70 = .ok (.return_, 1) := by decide +kernel
theorem dX4_placesTogether_0 : decode cX4_placesTogether 0 = .ok (.iconst 0, 1) := by decide +kernel
theorem dX4_placesTogether_1 : decode cX4_placesTogether 1 = .ok (.istore_n 1, 1) := by decide +kernel
theorem dX4_placesTogether_2 : decode cX4_placesTogether 2 = .ok (.iconst 0, 1) := by decide +kernel
theorem dX4_placesTogether_3 : decode cX4_placesTogether 3 = .ok (.istore_n 2, 1) := by decide +kernel
theorem dX4_placesTogether_4 : decode cX4_placesTogether 4 = .ok (.iload_n 2, 1) := by decide +kernel
theorem dX4_placesTogether_5 : decode cX4_placesTogether 5 = .ok (.aload_n 0, 1) := by decide +kernel
theorem dX4_placesTogether_6 : decode cX4_placesTogether 6 = .ok (.getfield 18, 3) := by decide +kernel
theorem dX4_placesTogether_9 : decode cX4_placesTogether 9 = .ok (.getfield 22, 3) := by decide +kernel
theorem dX4_placesTogether_12 : decode cX4_placesTogether 12 = .ok (.if_icmp .ge 18, 3) := by decide +kernel
theorem dX4_placesTogether_15 : decode cX4_placesTogether 15 = .ok (.iload_n 1, 1) := by decide +kernel
theorem dX4_placesTogether_16 : decode cX4_placesTogether 16 = .ok (.aload_n 0, 1) := by decide +kernel
theorem dX4_placesTogether_17 : decode cX4_placesTogether 17 = .ok (.getfield 9, 3) := by decide +kernel
theorem dX4_placesTogether_20 : decode cX4_placesTogether 20 = .ok (.iload_n 2, 1) := by decide +kernel
theorem dX4_placesTogether_21 : decode cX4_placesTogether 21 = .ok (.iaload, 1) := by decide +kernel
theorem dX4_placesTogether_22 : decode cX4_placesTogether 22 = .ok (.iadd, 1) := by decide +kernel
theorem dX4_placesTogether_23 : decode cX4_placesTogether 23 = .ok (.istore_n 1, 1) := by decide +kernel
theorem dX4_placesTogether_24 : decode cX4_placesTogether 24 = .ok (.iinc 2 1, 3) := by decide +kernel
theorem dX4_placesTogether_27 : decode cX4_placesTogether 27 = .ok (.goto (-23), 3) := by decide +kernel
theorem dX4_placesTogether_30 : decode cX4_placesTogether 30 = .ok (.iload_n 1, 1) := by decide +kernel
theorem dX4_placesTogether_31 : decode cX4_placesTogether 31 = .ok (.ireturn, 1) := by decide +kernel
theorem dX4_placesTaken_0 : decode cX4_placesTaken 0 = .ok (.iconst 0, 1) := by decide +kernel
theorem dX4_placesTaken_1 : decode cX4_placesTaken 1 = .ok (.istore_n 1, 1) := by decide +kernel
theorem dX4_placesTaken_2 : decode cX4_placesTaken 2 = .ok (.iconst 0, 1) := by decide +kernel
theorem dX4_placesTaken_3 : decode cX4_placesTaken 3 = .ok (.istore_n 2, 1) := by decide +kernel
theorem dX4_placesTaken_4 : decode cX4_placesTaken 4 = .ok (.iload_n 2, 1) := by decide +kernel
theorem dX4_placesTaken_5 : decode cX4_placesTaken 5 = .ok (.aload_n 0, 1) := by decide +kernel
theorem dX4_placesTaken_6 : decode cX4_placesTaken 6 = .ok (.getfield 18, 3) := by decide +kernel
theorem dX4_placesTaken_9 : decode cX4_placesTaken 9 = .ok (.getfield 22, 3) := by decide +kernel
theorem dX4_placesTaken_12 : decode cX4_placesTaken 12 = .ok (.if_icmp .ge 20, 3) := by decide +kernel
theorem dX4_placesTaken_15 : decode cX4_placesTaken 15 = .ok (.iload_n 1, 1) := by decide +kernel
theorem dX4_placesTaken_16 : decode cX4_placesTaken 16 = .ok (.iconst 1, 1) := by decide +kernel
theorem dX4_placesTaken_17 : decode cX4_placesTaken 17 = .ok (.aload_n 0, 1) := by decide +kernel
theorem dX4_placesTaken_18 : decode cX4_placesTaken 18 = .ok (.getfield 9, 3) := by decide +kernel
theorem dX4_placesTaken_21 : decode cX4_placesTaken 21 = .ok (.iload_n 2, 1) := by decide +kernel
theorem dX4_placesTaken_22 : decode cX4_placesTaken 22 = .ok (.iaload, 1) := by decide +kernel
theorem dX4_placesTaken_23 : decode cX4_placesTaken 23 = .ok (.ishl, 1) := by decide +kernel
theorem dX4_placesTaken_24 : decode cX4_placesTaken 24 = .ok (.ior, 1) := by decide +kernel
theorem dX4_placesTaken_25 : decode cX4_placesTaken 25 = .ok (.istore_n 1, 1) := by decide +kernel
theorem dX4_placesTaken_26 : decode cX4_placesTaken 26 = .ok (.iinc 2 1, 3) := by decide +kernel
theorem dX4_placesTaken_29 : decode cX4_placesTaken 29 = .ok (.goto (-25), 3) := by decide +kernel
theorem dX4_placesTaken_32 : decode cX4_placesTaken 32 = .ok (.iload_n 1, 1) := by decide +kernel
theorem dX4_placesTaken_33 : decode cX4_placesTaken 33 = .ok (.ireturn, 1) := by decide +kernel
theorem dX4_windTogether_0 : decode cX4_windTogether 0 = .ok (.iconst 0, 1) := by decide +kernel
theorem dX4_windTogether_1 : decode cX4_windTogether 1 = .ok (.istore_n 1, 1) := by decide +kernel
theorem dX4_windTogether_2 : decode cX4_windTogether 2 = .ok (.iconst 0, 1) := by decide +kernel
theorem dX4_windTogether_3 : decode cX4_windTogether 3 = .ok (.istore_n 2, 1) := by decide +kernel
theorem dX4_windTogether_4 : decode cX4_windTogether 4 = .ok (.iload_n 2, 1) := by decide +kernel
theorem dX4_windTogether_5 : decode cX4_windTogether 5 = .ok (.aload_n 0, 1) := by decide +kernel
theorem dX4_windTogether_6 : decode cX4_windTogether 6 = .ok (.getfield 18, 3) := by decide +kernel
theorem dX4_windTogether_9 : decode cX4_windTogether 9 = .ok (.getfield 22, 3) := by decide +kernel
theorem dX4_windTogether_12 : decode cX4_windTogether 12 = .ok (.if_icmp .ge 18, 3) := by decide +kernel
theorem dX4_windTogether_15 : decode cX4_windTogether 15 = .ok (.iload_n 1, 1) := by decide +kernel
theorem dX4_windTogether_16 : decode cX4_windTogether 16 = .ok (.aload_n 0, 1) := by decide +kernel
theorem dX4_windTogether_17 : decode cX4_windTogether 17 = .ok (.getfield 15, 3) := by decide +kernel
theorem dX4_windTogether_20 : decode cX4_windTogether 20 = .ok (.iload_n 2, 1) := by decide +kernel
theorem dX4_windTogether_21 : decode cX4_windTogether 21 = .ok (.iaload, 1) := by decide +kernel
theorem dX4_windTogether_22 : decode cX4_windTogether 22 = .ok (.iadd, 1) := by decide +kernel
theorem dX4_windTogether_23 : decode cX4_windTogether 23 = .ok (.istore_n 1, 1) := by decide +kernel
theorem dX4_windTogether_24 : decode cX4_windTogether 24 = .ok (.iinc 2 1, 3) := by decide +kernel
theorem dX4_windTogether_27 : decode cX4_windTogether 27 = .ok (.goto (-23), 3) := by decide +kernel
theorem dX4_windTogether_30 : decode cX4_windTogether 30 = .ok (.iload_n 1, 1) := by decide +kernel
theorem dX4_windTogether_31 : decode cX4_windTogether 31 = .ok (.ireturn, 1) := by decide +kernel
theorem dX5_init_0 : decode cX5_init 0 = .ok (.aload_n 0, 1) := by decide +kernel
theorem dX5_init_1 : decode cX5_init 1 = .ok (.invokespecial 5, 3) := by decide +kernel
theorem dX5_init_4 : decode cX5_init 4 = .ok (.aload_n 0, 1) := by decide +kernel
theorem dX5_init_5 : decode cX5_init 5 = .ok (.bipush 33, 2) := by decide +kernel
theorem dX5_init_7 : decode cX5_init 7 = .ok (.newarray .int, 2) := by decide +kernel
theorem dX5_init_9 : decode cX5_init 9 = .ok (.putfield 11, 3) := by decide +kernel
theorem dX5_init_12 : decode cX5_init 12 = .ok (.aload_n 0, 1) := by decide +kernel
theorem dX5_init_13 : decode cX5_init 13 = .ok (.bipush 33, 2) := by decide +kernel
theorem dX5_init_15 : decode cX5_init 15 = .ok (.newarray .int, 2) := by decide +kernel
theorem dX5_init_17 : decode cX5_init 17 = .ok (.putfield 15, 3) := by decide +kernel
theorem dX5_init_20 : decode cX5_init 20 = .ok (.aload_n 0, 1) := by decide +kernel
theorem dX5_init_21 : decode cX5_init 21 = .ok (.sipush 330, 3) := by decide +kernel
theorem dX5_init_24 : decode cX5_init 24 = .ok (.newarray .int, 2) := by decide +kernel
theorem dX5_init_26 : decode cX5_init 26 = .ok (.putfield 18, 3) := by decide +kernel
theorem dX5_init_29 : decode cX5_init 29 = .ok (.aload_n 0, 1) := by decide +kernel
theorem dX5_init_30 : decode cX5_init 30 = .ok (.bipush 10, 2) := by decide +kernel
theorem dX5_init_32 : decode cX5_init 32 = .ok (.newarray .int, 2) := by decide +kernel
theorem dX5_init_34 : decode cX5_init 34 = .ok (.putfield 21, 3) := by decide +kernel
theorem dX5_init_37 : decode cX5_init 37 = .ok (.aload_n 0, 1) := by decide +kernel
theorem dX5_init_38 : decode cX5_init 38 = .ok (.bipush 10, 2) := by decide +kernel
theorem dX5_init_40 : decode cX5_init 40 = .ok (.newarray .int, 2) := by decide +kernel
theorem dX5_init_42 : decode cX5_init 42 = .ok (.putfield 24, 3) := by decide +kernel
theorem dX5_init_45 : decode cX5_init 45 = .ok (.aload_n 0, 1) := by decide +kernel
theorem dX5_init_46 : decode cX5_init 46 = .ok (.aload_n 1, 1) := by decide +kernel
theorem dX5_init_47 : decode cX5_init 47 = .ok (.putfield 27, 3) := by decide +kernel
theorem dX5_init_50 : decode cX5_init 50 = .ok (.return_, 1) := by decide +kernel
set_option maxRecDepth 20000 in
theorem ggX5_prepare_X2_costShut : GoodIn wsX5_prepare wsX2_costShut := goodIn_r _ [19, 20, 21, 39, 40, 41, 42, 43, 44, 45] (by decide +kernel) (by decide +kernel)
set_option maxRecDepth 20000 in
theorem gX5_prepare_X2_costShut : GoodIn wsX5_prepare (wsV RX5 45 RX2 yX2_costShut wsX2_costShut) := goodIn_app (goodIn_of _ (by decide +kernel)) ggX5_prepare_X2_costShut
set_option maxRecDepth 20000 in
theorem ggX5_prepare_X2_tollFor : GoodIn wsX5_prepare wsX2_tollFor := goodIn_r _ [24] (by decide +kernel) (by decide +kernel)
set_option maxRecDepth 20000 in
theorem gX5_prepare_X2_tollFor : GoodIn wsX5_prepare (va_wsS RX5 49 yX2_tollFor wsX2_tollFor) := goodIn_app (goodIn_of _ (by decide +kernel)) ggX5_prepare_X2_tollFor
set_option maxRecDepth 20000 in
theorem ggX5_prepare_X5_modeAt : GoodIn wsX5_prepare wsX5_modeAt := goodIn_r _ [28] (by decide +kernel) (by decide +kernel)
set_option maxRecDepth 20000 in
theorem gX5_prepare_X5_modeAt : GoodIn wsX5_prepare (va_wsS RX5 74 yX5_modeAt wsX5_modeAt) := goodIn_app (goodIn_of _ (by decide +kernel)) ggX5_prepare_X5_modeAt
theorem dX5_prepare_0 : decode cX5_prepare 0 = .ok (.aload_n 0, 1) := by decide +kernel
theorem dX5_prepare_1 : decode cX5_prepare 1 = .ok (.getfield 27, 3) := by decide +kernel
theorem dX5_prepare_4 : decode cX5_prepare 4 = .ok (.getfield 31, 3) := by decide +kernel
theorem dX5_prepare_7 : decode cX5_prepare 7 = .ok (.iload_n 2, 1) := by decide +kernel
theorem dX5_prepare_8 : decode cX5_prepare 8 = .ok (.iaload, 1) := by decide +kernel
theorem dX5_prepare_9 : decode cX5_prepare 9 = .ok (.istore 5, 2) := by decide +kernel
theorem dX5_prepare_11 : decode cX5_prepare 11 = .ok (.iconst 0, 1) := by decide +kernel
theorem dX5_prepare_12 : decode cX5_prepare 12 = .ok (.istore 6, 2) := by decide +kernel
theorem dX5_prepare_14 : decode cX5_prepare 14 = .ok (.iload 6, 2) := by decide +kernel
theorem dX5_prepare_16 : decode cX5_prepare 16 = .ok (.aload_n 0, 1) := by decide +kernel
theorem dX5_prepare_17 : decode cX5_prepare 17 = .ok (.getfield 27, 3) := by decide +kernel
theorem dX5_prepare_20 : decode cX5_prepare 20 = .ok (.getfield 36, 3) := by decide +kernel
theorem dX5_prepare_23 : decode cX5_prepare 23 = .ok (.if_icmp .ge 61, 3) := by decide +kernel
theorem dX5_prepare_26 : decode cX5_prepare 26 = .ok (.iload 4, 2) := by decide +kernel
theorem dX5_prepare_28 : decode cX5_prepare 28 = .ok (.iload 6, 2) := by decide +kernel
theorem dX5_prepare_30 : decode cX5_prepare 30 = .ok (.ishr, 1) := by decide +kernel
theorem dX5_prepare_31 : decode cX5_prepare 31 = .ok (.iconst 1, 1) := by decide +kernel
theorem dX5_prepare_32 : decode cX5_prepare 32 = .ok (.iand, 1) := by decide +kernel
theorem dX5_prepare_33 : decode cX5_prepare 33 = .ok (.istore 7, 2) := by decide +kernel
theorem dX5_prepare_35 : decode cX5_prepare 35 = .ok (.aload_n 0, 1) := by decide +kernel
theorem dX5_prepare_36 : decode cX5_prepare 36 = .ok (.getfield 21, 3) := by decide +kernel
theorem dX5_prepare_39 : decode cX5_prepare 39 = .ok (.iload 6, 2) := by decide +kernel
theorem dX5_prepare_41 : decode cX5_prepare 41 = .ok (.iload 5, 2) := by decide +kernel
theorem dX5_prepare_43 : decode cX5_prepare 43 = .ok (.aload_n 0, 1) := by decide +kernel
theorem dX5_prepare_44 : decode cX5_prepare 44 = .ok (.getfield 27, 3) := by decide +kernel
theorem dX5_prepare_47 : decode cX5_prepare 47 = .ok (.iload 6, 2) := by decide +kernel
theorem dX5_prepare_49 : decode cX5_prepare 49 = .ok (.aload_n 1, 1) := by decide +kernel
theorem dX5_prepare_50 : decode cX5_prepare 50 = .ok (.getfield 40, 3) := by decide +kernel
theorem dX5_prepare_53 : decode cX5_prepare 53 = .ok (.iload_n 3, 1) := by decide +kernel
theorem dX5_prepare_54 : decode cX5_prepare 54 = .ok (.invokevirtual 45, 3) := by decide +kernel
theorem dX5_prepare_57 : decode cX5_prepare 57 = .ok (.iload 7, 2) := by decide +kernel
theorem dX5_prepare_59 : decode cX5_prepare 59 = .ok (.iadd, 1) := by decide +kernel
theorem dX5_prepare_60 : decode cX5_prepare 60 = .ok (.invokestatic 49, 3) := by decide +kernel
theorem dX5_prepare_63 : decode cX5_prepare 63 = .ok (.iastore, 1) := by decide +kernel
theorem dX5_prepare_64 : decode cX5_prepare 64 = .ok (.aload_n 0, 1) := by decide +kernel
theorem dX5_prepare_65 : decode cX5_prepare 65 = .ok (.getfield 24, 3) := by decide +kernel
theorem dX5_prepare_68 : decode cX5_prepare 68 = .ok (.iload 6, 2) := by decide +kernel
theorem dX5_prepare_70 : decode cX5_prepare 70 = .ok (.iload 5, 2) := by decide +kernel
theorem dX5_prepare_72 : decode cX5_prepare 72 = .ok (.iload 7, 2) := by decide +kernel
theorem dX5_prepare_74 : decode cX5_prepare 74 = .ok (.invokestatic 49, 3) := by decide +kernel
theorem dX5_prepare_77 : decode cX5_prepare 77 = .ok (.iastore, 1) := by decide +kernel
theorem dX5_prepare_78 : decode cX5_prepare 78 = .ok (.iinc 6 1, 3) := by decide +kernel
theorem dX5_prepare_81 : decode cX5_prepare 81 = .ok (.goto (-67), 3) := by decide +kernel
theorem dX5_prepare_84 : decode cX5_prepare 84 = .ok (.aload_n 0, 1) := by decide +kernel
theorem dX5_prepare_85 : decode cX5_prepare 85 = .ok (.aload_n 0, 1) := by decide +kernel
theorem dX5_prepare_86 : decode cX5_prepare 86 = .ok (.getfield 27, 3) := by decide +kernel
theorem dX5_prepare_89 : decode cX5_prepare 89 = .ok (.getfield 53, 3) := by decide +kernel
theorem dX5_prepare_92 : decode cX5_prepare 92 = .ok (.iload_n 2, 1) := by decide +kernel
theorem dX5_prepare_93 : decode cX5_prepare 93 = .ok (.iaload, 1) := by decide +kernel
theorem dX5_prepare_94 : decode cX5_prepare 94 = .ok (.putfield 56, 3) := by decide +kernel
theorem dX5_prepare_97 : decode cX5_prepare 97 = .ok (.aload_n 0, 1) := by decide +kernel
theorem dX5_prepare_98 : decode cX5_prepare 98 = .ok (.iload 5, 2) := by decide +kernel
theorem dX5_prepare_100 : decode cX5_prepare 100 = .ok (.iconst 3, 1) := by decide +kernel
theorem dX5_prepare_101 : decode cX5_prepare 101 = .ok (.if_icmp .ne 7, 3) := by decide +kernel
theorem dX5_prepare_104 : decode cX5_prepare 104 = .ok (.iconst 1, 1) := by decide +kernel
theorem dX5_prepare_105 : decode cX5_prepare 105 = .ok (.goto 4, 3) := by decide +kernel
theorem dX5_prepare_108 : decode cX5_prepare 108 = .ok (.iconst 0, 1) := by decide +kernel
theorem dX5_prepare_109 : decode cX5_prepare 109 = .ok (.putfield 58, 3) := by decide +kernel
theorem dX5_prepare_112 : decode cX5_prepare 112 = .ok (.aload_n 0, 1) := by decide +kernel
theorem dX5_prepare_113 : decode cX5_prepare 113 = .ok (.aload_n 1, 1) := by decide +kernel
theorem dX5_prepare_114 : decode cX5_prepare 114 = .ok (.getfield 62, 3) := by decide +kernel
theorem dX5_prepare_117 : decode cX5_prepare 117 = .ok (.iload_n 2, 1) := by decide +kernel
theorem dX5_prepare_118 : decode cX5_prepare 118 = .ok (.iaload, 1) := by decide +kernel
theorem dX5_prepare_119 : decode cX5_prepare 119 = .ok (.putfield 65, 3) := by decide +kernel
theorem dX5_prepare_122 : decode cX5_prepare 122 = .ok (.aload_n 0, 1) := by decide +kernel
theorem dX5_prepare_123 : decode cX5_prepare 123 = .ok (.aload_n 1, 1) := by decide +kernel
theorem dX5_prepare_124 : decode cX5_prepare 124 = .ok (.getfield 68, 3) := by decide +kernel
theorem dX5_prepare_127 : decode cX5_prepare 127 = .ok (.iload_n 2, 1) := by decide +kernel
theorem dX5_prepare_128 : decode cX5_prepare 128 = .ok (.iaload, 1) := by decide +kernel
theorem dX5_prepare_129 : decode cX5_prepare 129 = .ok (.iconst 3, 1) := by decide +kernel
theorem dX5_prepare_130 : decode cX5_prepare 130 = .ok (.imul, 1) := by decide +kernel
theorem dX5_prepare_131 : decode cX5_prepare 131 = .ok (.aload_n 1, 1) := by decide +kernel
theorem dX5_prepare_132 : decode cX5_prepare 132 = .ok (.getfield 68, 3) := by decide +kernel
theorem dX5_prepare_135 : decode cX5_prepare 135 = .ok (.iload_n 2, 1) := by decide +kernel
theorem dX5_prepare_136 : decode cX5_prepare 136 = .ok (.iaload, 1) := by decide +kernel
theorem dX5_prepare_137 : decode cX5_prepare 137 = .ok (.aload_n 1, 1) := by decide +kernel
theorem dX5_prepare_138 : decode cX5_prepare 138 = .ok (.getfield 71, 3) := by decide +kernel
theorem dX5_prepare_141 : decode cX5_prepare 141 = .ok (.invokestatic 74, 3) := by decide +kernel
theorem dX5_prepare_144 : decode cX5_prepare 144 = .ok (.iadd, 1) := by decide +kernel
theorem dX5_prepare_145 : decode cX5_prepare 145 = .ok (.putfield 77, 3) := by decide +kernel
theorem dX5_prepare_148 : decode cX5_prepare 148 = .ok (.return_, 1) := by decide +kernel
theorem dX5_modeAt_0 : decode cX5_modeAt 0 = .ok (.iload_n 1, 1) := by decide +kernel
theorem dX5_modeAt_1 : decode cX5_modeAt 1 = .ok (.iload_n 0, 1) := by decide +kernel
theorem dX5_modeAt_2 : decode cX5_modeAt 2 = .ok (.ishr, 1) := by decide +kernel
theorem dX5_modeAt_3 : decode cX5_modeAt 3 = .ok (.iconst 1, 1) := by decide +kernel
theorem dX5_modeAt_4 : decode cX5_modeAt 4 = .ok (.iand, 1) := by decide +kernel
theorem dX5_modeAt_5 : decode cX5_modeAt 5 = .ok (.iconst 1, 1) := by decide +kernel
theorem dX5_modeAt_6 : decode cX5_modeAt 6 = .ok (.if_icmp .ne 5, 3) := by decide +kernel
theorem dX5_modeAt_9 : decode cX5_modeAt 9 = .ok (.iconst 2, 1) := by decide +kernel
theorem dX5_modeAt_10 : decode cX5_modeAt 10 = .ok (.ireturn, 1) := by decide +kernel
theorem dX5_modeAt_11 : decode cX5_modeAt 11 = .ok (.iload_n 0, 1) := by decide +kernel
theorem dX5_modeAt_12 : decode cX5_modeAt 12 = .ok (.ifCond .le 18, 3) := by decide +kernel
theorem dX5_modeAt_15 : decode cX5_modeAt 15 = .ok (.iload_n 1, 1) := by decide +kernel
theorem dX5_modeAt_16 : decode cX5_modeAt 16 = .ok (.iload_n 0, 1) := by decide +kernel
theorem dX5_modeAt_17 : decode cX5_modeAt 17 = .ok (.iconst 1, 1) := by decide +kernel
theorem dX5_modeAt_18 : decode cX5_modeAt 18 = .ok (.isub, 1) := by decide +kernel
theorem dX5_modeAt_19 : decode cX5_modeAt 19 = .ok (.ishr, 1) := by decide +kernel
theorem dX5_modeAt_20 : decode cX5_modeAt 20 = .ok (.iconst 1, 1) := by decide +kernel
theorem dX5_modeAt_21 : decode cX5_modeAt 21 = .ok (.iand, 1) := by decide +kernel
theorem dX5_modeAt_22 : decode cX5_modeAt 22 = .ok (.iconst 1, 1) := by decide +kernel
theorem dX5_modeAt_23 : decode cX5_modeAt 23 = .ok (.if_icmp .ne 7, 3) := by decide +kernel
theorem dX5_modeAt_26 : decode cX5_modeAt 26 = .ok (.iconst 1, 1) := by decide +kernel
theorem dX5_modeAt_27 : decode cX5_modeAt 27 = .ok (.goto 4, 3) := by decide +kernel
theorem dX5_modeAt_30 : decode cX5_modeAt 30 = .ok (.iconst 0, 1) := by decide +kernel
theorem dX5_modeAt_31 : decode cX5_modeAt 31 = .ok (.ireturn, 1) := by decide +kernel
set_option maxRecDepth 20000 in
theorem ggX5_beginAt_J7_fill_53178 : GoodIn wsX5_beginAt wsJ7_fill_53178 := goodIn_r _ [7] (by decide +kernel) (by decide +kernel)
set_option maxRecDepth 20000 in
theorem gX5_beginAt_J7_fill_53178 : GoodIn wsX5_beginAt (va_wsS RX5 80 yJ7_fill_53178 wsJ7_fill_53178) := goodIn_app (goodIn_of _ (by decide +kernel)) ggX5_beginAt_J7_fill_53178
theorem dX5_beginAt_0 : decode cX5_beginAt 0 = .ok (.aload_n 0, 1) := by decide +kernel
theorem dX5_beginAt_1 : decode cX5_beginAt 1 = .ok (.getfield 11, 3) := by decide +kernel
theorem dX5_beginAt_4 : decode cX5_beginAt 4 = .ok (.iconst (-1), 1) := by decide +kernel
theorem dX5_beginAt_5 : decode cX5_beginAt 5 = .ok (.invokestatic 80, 3) := by decide +kernel
theorem dX5_beginAt_8 : decode cX5_beginAt 8 = .ok (.aload_n 0, 1) := by decide +kernel
theorem dX5_beginAt_9 : decode cX5_beginAt 9 = .ok (.getfield 11, 3) := by decide +kernel
theorem dX5_beginAt_12 : decode cX5_beginAt 12 = .ok (.aload_n 0, 1) := by decide +kernel
theorem dX5_beginAt_13 : decode cX5_beginAt 13 = .ok (.getfield 77, 3) := by decide +kernel
theorem dX5_beginAt_16 : decode cX5_beginAt 16 = .ok (.aload_n 0, 1) := by decide +kernel
theorem dX5_beginAt_17 : decode cX5_beginAt 17 = .ok (.getfield 65, 3) := by decide +kernel
theorem dX5_beginAt_20 : decode cX5_beginAt 20 = .ok (.iastore, 1) := by decide +kernel
theorem dX5_beginAt_21 : decode cX5_beginAt 21 = .ok (.return_, 1) := by decide +kernel
theorem dX5_windBeyond_0 : decode cX5_windBeyond 0 = .ok (.iload_n 1, 1) := by decide +kernel
theorem dX5_windBeyond_1 : decode cX5_windBeyond 1 = .ok (.iconst 3, 1) := by decide +kernel
theorem dX5_windBeyond_2 : decode cX5_windBeyond 2 = .ok (.idiv, 1) := by decide +kernel
theorem dX5_windBeyond_3 : decode cX5_windBeyond 3 = .ok (.istore_n 3, 1) := by decide +kernel
theorem dX5_windBeyond_4 : decode cX5_windBeyond 4 = .ok (.iload_n 2, 1) := by decide +kernel
theorem dX5_windBeyond_5 : decode cX5_windBeyond 5 = .ok (.ifCond .eq 7, 3) := by decide +kernel
theorem dX5_windBeyond_8 : decode cX5_windBeyond 8 = .ok (.iload_n 3, 1) := by decide +kernel
theorem dX5_windBeyond_9 : decode cX5_windBeyond 9 = .ok (.goto 6, 3) := by decide +kernel
theorem dX5_windBeyond_12 : decode cX5_windBeyond 12 = .ok (.iload_n 3, 1) := by decide +kernel
theorem dX5_windBeyond_13 : decode cX5_windBeyond 13 = .ok (.iconst 1, 1) := by decide +kernel
theorem dX5_windBeyond_14 : decode cX5_windBeyond 14 = .ok (.isub, 1) := by decide +kernel
theorem dX5_windBeyond_15 : decode cX5_windBeyond 15 = .ok (.istore 4, 2) := by decide +kernel
theorem dX5_windBeyond_17 : decode cX5_windBeyond 17 = .ok (.iload 4, 2) := by decide +kernel
theorem dX5_windBeyond_19 : decode cX5_windBeyond 19 = .ok (.ifCond .lt 15, 3) := by decide +kernel
theorem dX5_windBeyond_22 : decode cX5_windBeyond 22 = .ok (.iload 4, 2) := by decide +kernel
theorem dX5_windBeyond_24 : decode cX5_windBeyond 24 = .ok (.aload_n 0, 1) := by decide +kernel
theorem dX5_windBeyond_25 : decode cX5_windBeyond 25 = .ok (.getfield 27, 3) := by decide +kernel
theorem dX5_windBeyond_28 : decode cX5_windBeyond 28 = .ok (.getfield 36, 3) := by decide +kernel
theorem dX5_windBeyond_31 : decode cX5_windBeyond 31 = .ok (.if_icmp .lt 5, 3) := by decide +kernel
theorem dX5_windBeyond_34 : decode cX5_windBeyond 34 = .ok (.iconst (-1), 1) := by decide +kernel
theorem dX5_windBeyond_35 : decode cX5_windBeyond 35 = .ok (.ireturn, 1) := by decide +kernel
theorem dX5_windBeyond_36 : decode cX5_windBeyond 36 = .ok (.iload_n 1, 1) := by decide +kernel
theorem dX5_windBeyond_37 : decode cX5_windBeyond 37 = .ok (.iconst 3, 1) := by decide +kernel
theorem dX5_windBeyond_38 : decode cX5_windBeyond 38 = .ok (.irem, 1) := by decide +kernel
theorem dX5_windBeyond_39 : decode cX5_windBeyond 39 = .ok (.iload_n 2, 1) := by decide +kernel
theorem dX5_windBeyond_40 : decode cX5_windBeyond 40 = .ok (.ifCond .eq 7, 3) := by decide +kernel
theorem dX5_windBeyond_43 : decode cX5_windBeyond 43 = .ok (.iconst 2, 1) := by decide +kernel
theorem dX5_windBeyond_44 : decode cX5_windBeyond 44 = .ok (.goto 4, 3) := by decide +kernel
theorem dX5_windBeyond_47 : decode cX5_windBeyond 47 = .ok (.iconst 1, 1) := by decide +kernel
theorem dX5_windBeyond_48 : decode cX5_windBeyond 48 = .ok (.if_icmp .ne 7, 3) := by decide +kernel
theorem dX5_windBeyond_51 : decode cX5_windBeyond 51 = .ok (.iconst 1, 1) := by decide +kernel
theorem dX5_windBeyond_52 : decode cX5_windBeyond 52 = .ok (.goto 4, 3) := by decide +kernel
theorem dX5_windBeyond_55 : decode cX5_windBeyond 55 = .ok (.iconst 0, 1) := by decide +kernel
theorem dX5_windBeyond_56 : decode cX5_windBeyond 56 = .ok (.istore 5, 2) := by decide +kernel
theorem dX5_windBeyond_58 : decode cX5_windBeyond 58 = .ok (.aload_n 0, 1) := by decide +kernel
theorem dX5_windBeyond_59 : decode cX5_windBeyond 59 = .ok (.getfield 11, 3) := by decide +kernel
theorem dX5_windBeyond_62 : decode cX5_windBeyond 62 = .ok (.iload_n 1, 1) := by decide +kernel
theorem dX5_windBeyond_63 : decode cX5_windBeyond 63 = .ok (.iaload, 1) := by decide +kernel
theorem dX5_windBeyond_64 : decode cX5_windBeyond 64 = .ok (.iload 5, 2) := by decide +kernel
theorem dX5_windBeyond_66 : decode cX5_windBeyond 66 = .ok (.ifCond .eq 13, 3) := by decide +kernel
theorem dX5_windBeyond_69 : decode cX5_windBeyond 69 = .ok (.aload_n 0, 1) := by decide +kernel
theorem dX5_windBeyond_70 : decode cX5_windBeyond 70 = .ok (.getfield 24, 3) := by decide +kernel
theorem dX5_windBeyond_73 : decode cX5_windBeyond 73 = .ok (.iload 4, 2) := by decide +kernel
theorem dX5_windBeyond_75 : decode cX5_windBeyond 75 = .ok (.iaload, 1) := by decide +kernel
theorem dX5_windBeyond_76 : decode cX5_windBeyond 76 = .ok (.goto 10, 3) := by decide +kernel
theorem dX5_windBeyond_79 : decode cX5_windBeyond 79 = .ok (.aload_n 0, 1) := by decide +kernel
theorem dX5_windBeyond_80 : decode cX5_windBeyond 80 = .ok (.getfield 21, 3) := by decide +kernel
theorem dX5_windBeyond_83 : decode cX5_windBeyond 83 = .ok (.iload 4, 2) := by decide +kernel
theorem dX5_windBeyond_85 : decode cX5_windBeyond 85 = .ok (.iaload, 1) := by decide +kernel
theorem dX5_windBeyond_86 : decode cX5_windBeyond 86 = .ok (.isub, 1) := by decide +kernel
theorem dX5_windBeyond_87 : decode cX5_windBeyond 87 = .ok (.istore 6, 2) := by decide +kernel
theorem dX5_windBeyond_89 : decode cX5_windBeyond 89 = .ok (.iload 6, 2) := by decide +kernel
theorem dX5_windBeyond_91 : decode cX5_windBeyond 91 = .ok (.ifCond .lt 24, 3) := by decide +kernel
theorem dX5_windBeyond_94 : decode cX5_windBeyond 94 = .ok (.aload_n 0, 1) := by decide +kernel
theorem dX5_windBeyond_95 : decode cX5_windBeyond 95 = .ok (.getfield 27, 3) := by decide +kernel
theorem dX5_windBeyond_98 : decode cX5_windBeyond 98 = .ok (.getfield 86, 3) := by decide +kernel
theorem dX5_windBeyond_101 : decode cX5_windBeyond 101 = .ok (.iload 4, 2) := by decide +kernel
theorem dX5_windBeyond_103 : decode cX5_windBeyond 103 = .ok (.iaload, 1) := by decide +kernel
theorem dX5_windBeyond_104 : decode cX5_windBeyond 104 = .ok (.iconst 3, 1) := by decide +kernel
theorem dX5_windBeyond_105 : decode cX5_windBeyond 105 = .ok (.if_icmp .ne 10, 3) := by decide +kernel
theorem dX5_windBeyond_108 : decode cX5_windBeyond 108 = .ok (.aload_n 0, 1) := by decide +kernel
theorem dX5_windBeyond_109 : decode cX5_windBeyond 109 = .ok (.getfield 56, 3) := by decide +kernel
theorem dX5_windBeyond_112 : decode cX5_windBeyond 112 = .ok (.goto 5, 3) := by decide +kernel
theorem dX5_windBeyond_115 : decode cX5_windBeyond 115 = .ok (.iload 6, 2) := by decide +kernel
theorem dX5_windBeyond_117 : decode cX5_windBeyond 117 = .ok (.ireturn, 1) := by decide +kernel
theorem dX5_nodeBeyond_0 : decode cX5_nodeBeyond 0 = .ok (.iload_n 1, 1) := by decide +kernel
theorem dX5_nodeBeyond_1 : decode cX5_nodeBeyond 1 = .ok (.iconst 3, 1) := by decide +kernel
theorem dX5_nodeBeyond_2 : decode cX5_nodeBeyond 2 = .ok (.idiv, 1) := by decide +kernel
theorem dX5_nodeBeyond_3 : decode cX5_nodeBeyond 3 = .ok (.iload_n 2, 1) := by decide +kernel
theorem dX5_nodeBeyond_4 : decode cX5_nodeBeyond 4 = .ok (.ifCond .eq 7, 3) := by decide +kernel
theorem dX5_nodeBeyond_7 : decode cX5_nodeBeyond 7 = .ok (.iconst 1, 1) := by decide +kernel
theorem dX5_nodeBeyond_8 : decode cX5_nodeBeyond 8 = .ok (.goto 4, 3) := by decide +kernel
theorem dX5_nodeBeyond_11 : decode cX5_nodeBeyond 11 = .ok (.iconst (-1), 1) := by decide +kernel
theorem dX5_nodeBeyond_12 : decode cX5_nodeBeyond 12 = .ok (.iadd, 1) := by decide +kernel
theorem dX5_nodeBeyond_13 : decode cX5_nodeBeyond 13 = .ok (.istore_n 3, 1) := by decide +kernel
theorem dX5_nodeBeyond_14 : decode cX5_nodeBeyond 14 = .ok (.iload_n 2, 1) := by decide +kernel
theorem dX5_nodeBeyond_15 : decode cX5_nodeBeyond 15 = .ok (.ifCond .eq 7, 3) := by decide +kernel
theorem dX5_nodeBeyond_18 : decode cX5_nodeBeyond 18 = .ok (.iconst 1, 1) := by decide +kernel
theorem dX5_nodeBeyond_19 : decode cX5_nodeBeyond 19 = .ok (.goto 4, 3) := by decide +kernel
theorem dX5_nodeBeyond_22 : decode cX5_nodeBeyond 22 = .ok (.iconst 2, 1) := by decide +kernel
theorem dX5_nodeBeyond_23 : decode cX5_nodeBeyond 23 = .ok (.istore 4, 2) := by decide +kernel
theorem dX5_nodeBeyond_25 : decode cX5_nodeBeyond 25 = .ok (.iload_n 3, 1) := by decide +kernel
theorem dX5_nodeBeyond_26 : decode cX5_nodeBeyond 26 = .ok (.iconst 3, 1) := by decide +kernel
theorem dX5_nodeBeyond_27 : decode cX5_nodeBeyond 27 = .ok (.imul, 1) := by decide +kernel
theorem dX5_nodeBeyond_28 : decode cX5_nodeBeyond 28 = .ok (.aload_n 0, 1) := by decide +kernel
theorem dX5_nodeBeyond_29 : decode cX5_nodeBeyond 29 = .ok (.getfield 58, 3) := by decide +kernel
theorem dX5_nodeBeyond_32 : decode cX5_nodeBeyond 32 = .ok (.ifCond .eq 8, 3) := by decide +kernel
theorem dX5_nodeBeyond_35 : decode cX5_nodeBeyond 35 = .ok (.iload 4, 2) := by decide +kernel
theorem dX5_nodeBeyond_37 : decode cX5_nodeBeyond 37 = .ok (.goto 4, 3) := by decide +kernel
theorem dX5_nodeBeyond_40 : decode cX5_nodeBeyond 40 = .ok (.iconst 0, 1) := by decide +kernel
theorem dX5_nodeBeyond_41 : decode cX5_nodeBeyond 41 = .ok (.iadd, 1) := by decide +kernel
theorem dX5_nodeBeyond_42 : decode cX5_nodeBeyond 42 = .ok (.ireturn, 1) := by decide +kernel
set_option maxRecDepth 20000 in
theorem ggX5_places_X5_beginAt : GoodIn wsX5_places wsX5_beginAt := goodIn_r _ [7, 8, 2, 9, 10, 11, 12, 13, 33, 34, 35, 36, 37, 38, 39, 40, 41, 42] (by decide +kernel) (by decide +kernel)
set_option maxRecDepth 20000 in
theorem gX5_places_X5_beginAt : GoodIn wsX5_places (wsV RX5 89 RX5 yX5_beginAt wsX5_beginAt) := goodIn_app (goodIn_of _ (by decide +kernel)) ggX5_places_X5_beginAt
set_option maxRecDepth 20000 in
theorem ggX5_places_X5_enqueueBeyond : GoodIn wsX5_places wsX5_enqueueBeyond := goodIn_r _ [17, 1, 8, 18, 19, 20, 6, 21, 22, 23, 24, 25, 26, 27, 28, 29, 30, 31, 32, 33, 34, 35, 36, 37, 38, 39, 40, 41, 42, 43, 44, 45, 46, 47, 48, 49] (by decide +kernel) (by decide +kernel)
set_option maxRecDepth 20000 in
theorem gX5_places_X5_enqueueBeyond : GoodIn wsX5_places (wsV RX5 92 RX5 yX5_enqueueBeyond wsX5_enqueueBeyond) := goodIn_app (goodIn_of _ (by decide +kernel)) ggX5_places_X5_enqueueBeyond
theorem dX5_places_0 : decode cX5_places 0 = .ok (.aload_n 0, 1) := by decide +kernel
theorem dX5_places_1 : decode cX5_places 1 = .ok (.invokevirtual 89, 3) := by decide +kernel
theorem dX5_places_4 : decode cX5_places 4 = .ok (.iconst 0, 1) := by decide +kernel
theorem dX5_places_5 : decode cX5_places 5 = .ok (.istore_n 1, 1) := by decide +kernel
theorem dX5_places_6 : decode cX5_places 6 = .ok (.iconst 1, 1) := by decide +kernel
theorem dX5_places_7 : decode cX5_places 7 = .ok (.istore_n 2, 1) := by decide +kernel
theorem dX5_places_8 : decode cX5_places 8 = .ok (.aload_n 0, 1) := by decide +kernel
theorem dX5_places_9 : decode cX5_places 9 = .ok (.getfield 18, 3) := by decide +kernel
theorem dX5_places_12 : decode cX5_places 12 = .ok (.iconst 0, 1) := by decide +kernel
theorem dX5_places_13 : decode cX5_places 13 = .ok (.aload_n 0, 1) := by decide +kernel
theorem dX5_places_14 : decode cX5_places 14 = .ok (.getfield 77, 3) := by decide +kernel
theorem dX5_places_17 : decode cX5_places 17 = .ok (.iastore, 1) := by decide +kernel
theorem dX5_places_18 : decode cX5_places 18 = .ok (.iconst 0, 1) := by decide +kernel
theorem dX5_places_19 : decode cX5_places 19 = .ok (.istore_n 3, 1) := by decide +kernel
theorem dX5_places_20 : decode cX5_places 20 = .ok (.iload_n 3, 1) := by decide +kernel
theorem dX5_places_21 : decode cX5_places 21 = .ok (.iload_n 2, 1) := by decide +kernel
theorem dX5_places_22 : decode cX5_places 22 = .ok (.if_icmp .ge 57, 3) := by decide +kernel
theorem dX5_places_25 : decode cX5_places 25 = .ok (.iload_n 3, 1) := by decide +kernel
theorem dX5_places_26 : decode cX5_places 26 = .ok (.aload_n 0, 1) := by decide +kernel
theorem dX5_places_27 : decode cX5_places 27 = .ok (.getfield 18, 3) := by decide +kernel
theorem dX5_places_30 : decode cX5_places 30 = .ok (.arraylength, 1) := by decide +kernel
theorem dX5_places_31 : decode cX5_places 31 = .ok (.if_icmp .ge 48, 3) := by decide +kernel
theorem dX5_places_34 : decode cX5_places 34 = .ok (.iload_n 1, 1) := by decide +kernel
theorem dX5_places_35 : decode cX5_places 35 = .ok (.iconst 1, 1) := by decide +kernel
theorem dX5_places_36 : decode cX5_places 36 = .ok (.aload_n 0, 1) := by decide +kernel
theorem dX5_places_37 : decode cX5_places 37 = .ok (.getfield 18, 3) := by decide +kernel
theorem dX5_places_40 : decode cX5_places 40 = .ok (.iload_n 3, 1) := by decide +kernel
theorem dX5_places_41 : decode cX5_places 41 = .ok (.iaload, 1) := by decide +kernel
theorem dX5_places_42 : decode cX5_places 42 = .ok (.iconst 3, 1) := by decide +kernel
theorem dX5_places_43 : decode cX5_places 43 = .ok (.idiv, 1) := by decide +kernel
theorem dX5_places_44 : decode cX5_places 44 = .ok (.ishl, 1) := by decide +kernel
theorem dX5_places_45 : decode cX5_places 45 = .ok (.ior, 1) := by decide +kernel
theorem dX5_places_46 : decode cX5_places 46 = .ok (.istore_n 1, 1) := by decide +kernel
theorem dX5_places_47 : decode cX5_places 47 = .ok (.aload_n 0, 1) := by decide +kernel
theorem dX5_places_48 : decode cX5_places 48 = .ok (.aload_n 0, 1) := by decide +kernel
theorem dX5_places_49 : decode cX5_places 49 = .ok (.getfield 18, 3) := by decide +kernel
theorem dX5_places_52 : decode cX5_places 52 = .ok (.iload_n 3, 1) := by decide +kernel
theorem dX5_places_53 : decode cX5_places 53 = .ok (.iaload, 1) := by decide +kernel
theorem dX5_places_54 : decode cX5_places 54 = .ok (.iconst 1, 1) := by decide +kernel
theorem dX5_places_55 : decode cX5_places 55 = .ok (.iload_n 2, 1) := by decide +kernel
theorem dX5_places_56 : decode cX5_places 56 = .ok (.invokevirtual 92, 3) := by decide +kernel
theorem dX5_places_59 : decode cX5_places 59 = .ok (.istore_n 2, 1) := by decide +kernel
theorem dX5_places_60 : decode cX5_places 60 = .ok (.aload_n 0, 1) := by decide +kernel
theorem dX5_places_61 : decode cX5_places 61 = .ok (.aload_n 0, 1) := by decide +kernel
theorem dX5_places_62 : decode cX5_places 62 = .ok (.getfield 18, 3) := by decide +kernel
theorem dX5_places_65 : decode cX5_places 65 = .ok (.iload_n 3, 1) := by decide +kernel
theorem dX5_places_66 : decode cX5_places 66 = .ok (.iaload, 1) := by decide +kernel
theorem dX5_places_67 : decode cX5_places 67 = .ok (.iconst 0, 1) := by decide +kernel
theorem dX5_places_68 : decode cX5_places 68 = .ok (.iload_n 2, 1) := by decide +kernel
theorem dX5_places_69 : decode cX5_places 69 = .ok (.invokevirtual 92, 3) := by decide +kernel
theorem dX5_places_72 : decode cX5_places 72 = .ok (.istore_n 2, 1) := by decide +kernel
theorem dX5_places_73 : decode cX5_places 73 = .ok (.iinc 3 1, 3) := by decide +kernel
theorem dX5_places_76 : decode cX5_places 76 = .ok (.goto (-56), 3) := by decide +kernel
theorem dX5_places_79 : decode cX5_places 79 = .ok (.iload_n 1, 1) := by decide +kernel
theorem dX5_places_80 : decode cX5_places 80 = .ok (.ireturn, 1) := by decide +kernel
set_option maxRecDepth 20000 in
theorem ggX5_enqueueBeyond_X5_windBeyond : GoodIn wsX5_enqueueBeyond wsX5_windBeyond := goodIn_r _ [7, 8, 9, 2, 10, 11, 12, 13, 19, 20, 21, 22, 23, 24, 25, 26, 27, 28, 29, 30, 31, 32, 33, 34, 35] (by decide +kernel) (by decide +kernel)
set_option maxRecDepth 20000 in
theorem gX5_enqueueBeyond_X5_windBeyond : GoodIn wsX5_enqueueBeyond (wsV RX5 96 RX5 yX5_windBeyond wsX5_windBeyond) := goodIn_app (goodIn_of _ (by decide +kernel)) ggX5_enqueueBeyond_X5_windBeyond
set_option maxRecDepth 20000 in
theorem ggX5_enqueueBeyond_X5_nodeBeyond : GoodIn wsX5_enqueueBeyond wsX5_nodeBeyond := goodIn_r _ [17, 18, 19, 20, 21, 22, 23, 24, 25, 26, 27, 28] (by decide +kernel) (by decide +kernel)
set_option maxRecDepth 20000 in
theorem gX5_enqueueBeyond_X5_nodeBeyond : GoodIn wsX5_enqueueBeyond (wsV RX5 100 RX5 yX5_nodeBeyond wsX5_nodeBeyond) := goodIn_app (goodIn_of _ (by decide +kernel)) ggX5_enqueueBeyond_X5_nodeBeyond
theorem dX5_enqueueBeyond_0 : decode cX5_enqueueBeyond 0 = .ok (.aload_n 0, 1) := by decide +kernel
theorem dX5_enqueueBeyond_1 : decode cX5_enqueueBeyond 1 = .ok (.iload_n 1, 1) := by decide +kernel
theorem dX5_enqueueBeyond_2 : decode cX5_enqueueBeyond 2 = .ok (.iload_n 2, 1) := by decide +kernel
theorem dX5_enqueueBeyond_3 : decode cX5_enqueueBeyond 3 = .ok (.invokevirtual 96, 3) := by decide +kernel
theorem dX5_enqueueBeyond_6 : decode cX5_enqueueBeyond 6 = .ok (.istore 4, 2) := by decide +kernel
theorem dX5_enqueueBeyond_8 : decode cX5_enqueueBeyond 8 = .ok (.iload 4, 2) := by decide +kernel
theorem dX5_enqueueBeyond_10 : decode cX5_enqueueBeyond 10 = .ok (.ifCond .lt 12, 3) := by decide +kernel
theorem dX5_enqueueBeyond_13 : decode cX5_enqueueBeyond 13 = .ok (.iload_n 3, 1) := by decide +kernel
theorem dX5_enqueueBeyond_14 : decode cX5_enqueueBeyond 14 = .ok (.aload_n 0, 1) := by decide +kernel
theorem dX5_enqueueBeyond_15 : decode cX5_enqueueBeyond 15 = .ok (.getfield 18, 3) := by decide +kernel
theorem dX5_enqueueBeyond_18 : decode cX5_enqueueBeyond 18 = .ok (.arraylength, 1) := by decide +kernel
theorem dX5_enqueueBeyond_19 : decode cX5_enqueueBeyond 19 = .ok (.if_icmp .lt 5, 3) := by decide +kernel
theorem dX5_enqueueBeyond_22 : decode cX5_enqueueBeyond 22 = .ok (.iload_n 3, 1) := by decide +kernel
theorem dX5_enqueueBeyond_23 : decode cX5_enqueueBeyond 23 = .ok (.ireturn, 1) := by decide +kernel
theorem dX5_enqueueBeyond_24 : decode cX5_enqueueBeyond 24 = .ok (.aload_n 0, 1) := by decide +kernel
theorem dX5_enqueueBeyond_25 : decode cX5_enqueueBeyond 25 = .ok (.iload_n 1, 1) := by decide +kernel
theorem dX5_enqueueBeyond_26 : decode cX5_enqueueBeyond 26 = .ok (.iload_n 2, 1) := by decide +kernel
theorem dX5_enqueueBeyond_27 : decode cX5_enqueueBeyond 27 = .ok (.invokevirtual 100, 3) := by decide +kernel
theorem dX5_enqueueBeyond_30 : decode cX5_enqueueBeyond 30 = .ok (.istore 5, 2) := by decide +kernel
theorem dX5_enqueueBeyond_32 : decode cX5_enqueueBeyond 32 = .ok (.iload 4, 2) := by decide +kernel
theorem dX5_enqueueBeyond_34 : decode cX5_enqueueBeyond 34 = .ok (.aload_n 0, 1) := by decide +kernel
theorem dX5_enqueueBeyond_35 : decode cX5_enqueueBeyond 35 = .ok (.getfield 11, 3) := by decide +kernel
theorem dX5_enqueueBeyond_38 : decode cX5_enqueueBeyond 38 = .ok (.iload 5, 2) := by decide +kernel
theorem dX5_enqueueBeyond_40 : decode cX5_enqueueBeyond 40 = .ok (.iaload, 1) := by decide +kernel
theorem dX5_enqueueBeyond_41 : decode cX5_enqueueBeyond 41 = .ok (.if_icmp .gt 5, 3) := by decide +kernel
theorem dX5_enqueueBeyond_44 : decode cX5_enqueueBeyond 44 = .ok (.iload_n 3, 1) := by decide +kernel
theorem dX5_enqueueBeyond_45 : decode cX5_enqueueBeyond 45 = .ok (.ireturn, 1) := by decide +kernel
theorem dX5_enqueueBeyond_46 : decode cX5_enqueueBeyond 46 = .ok (.aload_n 0, 1) := by decide +kernel
theorem dX5_enqueueBeyond_47 : decode cX5_enqueueBeyond 47 = .ok (.getfield 11, 3) := by decide +kernel
theorem dX5_enqueueBeyond_50 : decode cX5_enqueueBeyond 50 = .ok (.iload 5, 2) := by decide +kernel
theorem dX5_enqueueBeyond_52 : decode cX5_enqueueBeyond 52 = .ok (.iload 4, 2) := by decide +kernel
theorem dX5_enqueueBeyond_54 : decode cX5_enqueueBeyond 54 = .ok (.iastore, 1) := by decide +kernel
theorem dX5_enqueueBeyond_55 : decode cX5_enqueueBeyond 55 = .ok (.aload_n 0, 1) := by decide +kernel
theorem dX5_enqueueBeyond_56 : decode cX5_enqueueBeyond 56 = .ok (.getfield 18, 3) := by decide +kernel
theorem dX5_enqueueBeyond_59 : decode cX5_enqueueBeyond 59 = .ok (.iload_n 3, 1) := by decide +kernel
theorem dX5_enqueueBeyond_60 : decode cX5_enqueueBeyond 60 = .ok (.iload 5, 2) := by decide +kernel
theorem dX5_enqueueBeyond_62 : decode cX5_enqueueBeyond 62 = .ok (.iastore, 1) := by decide +kernel
theorem dX5_enqueueBeyond_63 : decode cX5_enqueueBeyond 63 = .ok (.iload_n 3, 1) := by decide +kernel
theorem dX5_enqueueBeyond_64 : decode cX5_enqueueBeyond 64 = .ok (.iconst 1, 1) := by decide +kernel
theorem dX5_enqueueBeyond_65 : decode cX5_enqueueBeyond 65 = .ok (.iadd, 1) := by decide +kernel
theorem dX5_enqueueBeyond_66 : decode cX5_enqueueBeyond 66 = .ok (.ireturn, 1) := by decide +kernel
set_option maxRecDepth 20000 in
theorem ggX5_movesTo_X5_beginAt : GoodIn wsX5_movesTo wsX5_beginAt := goodIn_r _ [6, 1, 7, 8, 9, 10, 11, 12, 57, 58, 59, 60, 61, 62, 63, 64, 65, 66] (by decide +kernel) (by decide +kernel)
set_option maxRecDepth 20000 in
theorem gX5_movesTo_X5_beginAt : GoodIn wsX5_movesTo (wsV RX5 89 RX5 yX5_beginAt wsX5_beginAt) := goodIn_app (goodIn_of _ (by decide +kernel)) ggX5_movesTo_X5_beginAt
set_option maxRecDepth 20000 in
theorem ggX5_movesTo_X5_moveOnce : GoodIn wsX5_movesTo wsX5_moveOnce := goodIn_r _ [16, 17, 1, 18, 19, 20, 21, 22, 9, 10, 11, 12, 23, 24, 25, 5, 26, 27, 28, 29, 30, 31, 32, 33, 34, 35, 36, 37, 38, 39, 40, 41, 42, 43, 44, 45, 46, 47, 48, 49, 50, 51, 52, 53, 54, 55, 56, 57, 58, 59, 60, 61, 62, 63, 64, 65, 66, 67, 68, 69, 70, 71, 72, 73] (by decide +kernel) (by decide +kernel)
set_option maxRecDepth 20000 in
theorem gX5_movesTo_X5_moveOnce : GoodIn wsX5_movesTo (wsV RX5 103 RX5 yX5_moveOnce wsX5_moveOnce) := goodIn_app (goodIn_of _ (by decide +kernel)) ggX5_movesTo_X5_moveOnce
theorem dX5_movesTo_0 : decode cX5_movesTo 0 = .ok (.aload_n 0, 1) := by decide +kernel
theorem dX5_movesTo_1 : decode cX5_movesTo 1 = .ok (.invokevirtual 89, 3) := by decide +kernel
theorem dX5_movesTo_4 : decode cX5_movesTo 4 = .ok (.iconst 0, 1) := by decide +kernel
theorem dX5_movesTo_5 : decode cX5_movesTo 5 = .ok (.istore_n 2, 1) := by decide +kernel
theorem dX5_movesTo_6 : decode cX5_movesTo 6 = .ok (.iload_n 2, 1) := by decide +kernel
theorem dX5_movesTo_7 : decode cX5_movesTo 7 = .ok (.bipush 30, 2) := by decide +kernel
theorem dX5_movesTo_9 : decode cX5_movesTo 9 = .ok (.if_icmp .gt 41, 3) := by decide +kernel
theorem dX5_movesTo_12 : decode cX5_movesTo 12 = .ok (.iconst 0, 1) := by decide +kernel
theorem dX5_movesTo_13 : decode cX5_movesTo 13 = .ok (.istore_n 3, 1) := by decide +kernel
theorem dX5_movesTo_14 : decode cX5_movesTo 14 = .ok (.iload_n 3, 1) := by decide +kernel
theorem dX5_movesTo_15 : decode cX5_movesTo 15 = .ok (.iconst 3, 1) := by decide +kernel
theorem dX5_movesTo_16 : decode cX5_movesTo 16 = .ok (.if_icmp .ge 24, 3) := by decide +kernel
theorem dX5_movesTo_19 : decode cX5_movesTo 19 = .ok (.aload_n 0, 1) := by decide +kernel
theorem dX5_movesTo_20 : decode cX5_movesTo 20 = .ok (.getfield 11, 3) := by decide +kernel
theorem dX5_movesTo_23 : decode cX5_movesTo 23 = .ok (.iload_n 1, 1) := by decide +kernel
theorem dX5_movesTo_24 : decode cX5_movesTo 24 = .ok (.iconst 3, 1) := by decide +kernel
theorem dX5_movesTo_25 : decode cX5_movesTo 25 = .ok (.imul, 1) := by decide +kernel
theorem dX5_movesTo_26 : decode cX5_movesTo 26 = .ok (.iload_n 3, 1) := by decide +kernel
theorem dX5_movesTo_27 : decode cX5_movesTo 27 = .ok (.iadd, 1) := by decide +kernel
theorem dX5_movesTo_28 : decode cX5_movesTo 28 = .ok (.iaload, 1) := by decide +kernel
theorem dX5_movesTo_29 : decode cX5_movesTo 29 = .ok (.ifCond .lt 5, 3) := by decide +kernel
theorem dX5_movesTo_32 : decode cX5_movesTo 32 = .ok (.iload_n 2, 1) := by decide +kernel
theorem dX5_movesTo_33 : decode cX5_movesTo 33 = .ok (.ireturn, 1) := by decide +kernel
theorem dX5_movesTo_34 : decode cX5_movesTo 34 = .ok (.iinc 3 1, 3) := by decide +kernel
theorem dX5_movesTo_37 : decode cX5_movesTo 37 = .ok (.goto (-23), 3) := by decide +kernel
theorem dX5_movesTo_40 : decode cX5_movesTo 40 = .ok (.aload_n 0, 1) := by decide +kernel
theorem dX5_movesTo_41 : decode cX5_movesTo 41 = .ok (.invokevirtual 103, 3) := by decide +kernel
theorem dX5_movesTo_44 : decode cX5_movesTo 44 = .ok (.iinc 2 1, 3) := by decide +kernel
theorem dX5_movesTo_47 : decode cX5_movesTo 47 = .ok (.goto (-41), 3) := by decide +kernel
theorem dX5_movesTo_50 : decode cX5_movesTo 50 = .ok (.bipush (-9), 2) := by decide +kernel
theorem dX5_movesTo_52 : decode cX5_movesTo 52 = .ok (.ireturn, 1) := by decide +kernel
set_option maxRecDepth 20000 in
theorem ggX5_moveOnce_J7_fill_53178 : GoodIn wsX5_moveOnce wsJ7_fill_53178 := goodIn_r _ [11] (by decide +kernel) (by decide +kernel)
set_option maxRecDepth 20000 in
theorem gX5_moveOnce_J7_fill_53178 : GoodIn wsX5_moveOnce (va_wsS RX5 80 yJ7_fill_53178 wsJ7_fill_53178) := goodIn_app (goodIn_of _ (by decide +kernel)) ggX5_moveOnce_J7_fill_53178
set_option maxRecDepth 20000 in
theorem ggX5_moveOnce_X5_stepOnce : GoodIn wsX5_moveOnce wsX5_stepOnce := goodIn_r _ [16, 17, 18, 19, 15, 20, 21, 22, 2, 23, 24, 25, 3, 26, 27, 28, 29, 30, 31, 32, 33, 34, 1, 35, 36, 37, 38, 47, 48, 49, 50, 51, 52, 53, 54, 55, 56, 57, 58, 59, 60, 61, 62, 63] (by decide +kernel) (by decide +kernel)
set_option maxRecDepth 20000 in
theorem gX5_moveOnce_X5_stepOnce : GoodIn wsX5_moveOnce (wsV RX5 106 RX5 yX5_stepOnce wsX5_stepOnce) := goodIn_app (goodIn_of _ (by decide +kernel)) ggX5_moveOnce_X5_stepOnce
set_option maxRecDepth 20000 in
theorem ggX5_moveOnce_X2_windRested : GoodIn wsX5_moveOnce wsX2_windRested := goodIn_r _ [42, 43, 36, 37, 38, 44, 45, 46] (by decide +kernel) (by decide +kernel)
set_option maxRecDepth 20000 in
theorem gX5_moveOnce_X2_windRested : GoodIn wsX5_moveOnce (va_wsS RX5 110 yX2_windRested wsX2_windRested) := goodIn_app (goodIn_of _ (by decide +kernel)) ggX5_moveOnce_X2_windRested
set_option maxRecDepth 20000 in
theorem ggX5_moveOnce_X5_raise : GoodIn wsX5_moveOnce wsX5_raise := goodIn_r _ [34, 1, 35, 36, 37, 38, 47, 48, 49, 50, 51, 52, 53, 54, 55, 56] (by decide +kernel) (by decide +kernel)
set_option maxRecDepth 20000 in
theorem gX5_moveOnce_X5_raise : GoodIn wsX5_moveOnce (wsV RX5 113 RX5 yX5_raise wsX5_raise) := goodIn_app (goodIn_of _ (by decide +kernel)) ggX5_moveOnce_X5_raise
theorem dX5_moveOnce_0 : decode cX5_moveOnce 0 = .ok (.aload_n 0, 1) := by decide +kernel
theorem dX5_moveOnce_1 : decode cX5_moveOnce 1 = .ok (.getfield 15, 3) := by decide +kernel
theorem dX5_moveOnce_4 : decode cX5_moveOnce 4 = .ok (.iconst (-1), 1) := by decide +kernel
theorem dX5_moveOnce_5 : decode cX5_moveOnce 5 = .ok (.invokestatic 80, 3) := by decide +kernel
theorem dX5_moveOnce_8 : decode cX5_moveOnce 8 = .ok (.iconst 0, 1) := by decide +kernel
theorem dX5_moveOnce_9 : decode cX5_moveOnce 9 = .ok (.istore_n 1, 1) := by decide +kernel
theorem dX5_moveOnce_10 : decode cX5_moveOnce 10 = .ok (.iload_n 1, 1) := by decide +kernel
theorem dX5_moveOnce_11 : decode cX5_moveOnce 11 = .ok (.bipush 33, 2) := by decide +kernel
theorem dX5_moveOnce_13 : decode cX5_moveOnce 13 = .ok (.if_icmp .ge 54, 3) := by decide +kernel
theorem dX5_moveOnce_16 : decode cX5_moveOnce 16 = .ok (.aload_n 0, 1) := by decide +kernel
theorem dX5_moveOnce_17 : decode cX5_moveOnce 17 = .ok (.getfield 11, 3) := by decide +kernel
theorem dX5_moveOnce_20 : decode cX5_moveOnce 20 = .ok (.iload_n 1, 1) := by decide +kernel
theorem dX5_moveOnce_21 : decode cX5_moveOnce 21 = .ok (.iaload, 1) := by decide +kernel
theorem dX5_moveOnce_22 : decode cX5_moveOnce 22 = .ok (.ifCond .lt 39, 3) := by decide +kernel
theorem dX5_moveOnce_25 : decode cX5_moveOnce 25 = .ok (.aload_n 0, 1) := by decide +kernel
theorem dX5_moveOnce_26 : decode cX5_moveOnce 26 = .ok (.iload_n 1, 1) := by decide +kernel
theorem dX5_moveOnce_27 : decode cX5_moveOnce 27 = .ok (.iconst 1, 1) := by decide +kernel
theorem dX5_moveOnce_28 : decode cX5_moveOnce 28 = .ok (.invokevirtual 106, 3) := by decide +kernel
theorem dX5_moveOnce_31 : decode cX5_moveOnce 31 = .ok (.aload_n 0, 1) := by decide +kernel
theorem dX5_moveOnce_32 : decode cX5_moveOnce 32 = .ok (.iload_n 1, 1) := by decide +kernel
theorem dX5_moveOnce_33 : decode cX5_moveOnce 33 = .ok (.iconst 0, 1) := by decide +kernel
theorem dX5_moveOnce_34 : decode cX5_moveOnce 34 = .ok (.invokevirtual 106, 3) := by decide +kernel
theorem dX5_moveOnce_37 : decode cX5_moveOnce 37 = .ok (.aload_n 0, 1) := by decide +kernel
theorem dX5_moveOnce_38 : decode cX5_moveOnce 38 = .ok (.iload_n 1, 1) := by decide +kernel
theorem dX5_moveOnce_39 : decode cX5_moveOnce 39 = .ok (.iload_n 1, 1) := by decide +kernel
theorem dX5_moveOnce_40 : decode cX5_moveOnce 40 = .ok (.iconst 3, 1) := by decide +kernel
theorem dX5_moveOnce_41 : decode cX5_moveOnce 41 = .ok (.irem, 1) := by decide +kernel
theorem dX5_moveOnce_42 : decode cX5_moveOnce 42 = .ok (.isub, 1) := by decide +kernel
theorem dX5_moveOnce_43 : decode cX5_moveOnce 43 = .ok (.iconst 0, 1) := by decide +kernel
theorem dX5_moveOnce_44 : decode cX5_moveOnce 44 = .ok (.iadd, 1) := by decide +kernel
theorem dX5_moveOnce_45 : decode cX5_moveOnce 45 = .ok (.aload_n 0, 1) := by decide +kernel
theorem dX5_moveOnce_46 : decode cX5_moveOnce 46 = .ok (.getfield 11, 3) := by decide +kernel
theorem dX5_moveOnce_49 : decode cX5_moveOnce 49 = .ok (.iload_n 1, 1) := by decide +kernel
theorem dX5_moveOnce_50 : decode cX5_moveOnce 50 = .ok (.iaload, 1) := by decide +kernel
theorem dX5_moveOnce_51 : decode cX5_moveOnce 51 = .ok (.aload_n 0, 1) := by decide +kernel
theorem dX5_moveOnce_52 : decode cX5_moveOnce 52 = .ok (.getfield 56, 3) := by decide +kernel
theorem dX5_moveOnce_55 : decode cX5_moveOnce 55 = .ok (.invokestatic 110, 3) := by decide +kernel
theorem dX5_moveOnce_58 : decode cX5_moveOnce 58 = .ok (.invokevirtual 113, 3) := by decide +kernel
theorem dX5_moveOnce_61 : decode cX5_moveOnce 61 = .ok (.iinc 1 1, 3) := by decide +kernel
theorem dX5_moveOnce_64 : decode cX5_moveOnce 64 = .ok (.goto (-54), 3) := by decide +kernel
theorem dX5_moveOnce_67 : decode cX5_moveOnce 67 = .ok (.aload_n 0, 1) := by decide +kernel
theorem dX5_moveOnce_68 : decode cX5_moveOnce 68 = .ok (.getfield 15, 3) := by decide +kernel
theorem dX5_moveOnce_71 : decode cX5_moveOnce 71 = .ok (.iconst 0, 1) := by decide +kernel
theorem dX5_moveOnce_72 : decode cX5_moveOnce 72 = .ok (.aload_n 0, 1) := by decide +kernel
theorem dX5_moveOnce_73 : decode cX5_moveOnce 73 = .ok (.getfield 11, 3) := by decide +kernel
theorem dX5_moveOnce_76 : decode cX5_moveOnce 76 = .ok (.iconst 0, 1) := by decide +kernel
theorem dX5_moveOnce_77 : decode cX5_moveOnce 77 = .ok (.bipush 33, 2) := by decide +kernel
theorem dX5_moveOnce_79 : decode cX5_moveOnce 79 = .ok (.invokestatic 117, 3) := by decide +kernel
theorem dX5_moveOnce_82 : decode cX5_moveOnce 82 = .ok (.return_, 1) := by decide +kernel
set_option maxRecDepth 20000 in
theorem ggX5_stepOnce_X5_windBeyond : GoodIn wsX5_stepOnce wsX5_windBeyond := goodIn_r _ [5, 6, 7, 8, 9, 10, 11, 12, 27, 28, 29, 30, 31, 32, 33, 34, 35, 36, 37, 38, 39, 40, 41, 42, 43] (by decide +kernel) (by decide +kernel)
set_option maxRecDepth 20000 in
theorem gX5_stepOnce_X5_windBeyond : GoodIn wsX5_stepOnce (wsV RX5 96 RX5 yX5_windBeyond wsX5_windBeyond) := goodIn_app (goodIn_of _ (by decide +kernel)) ggX5_stepOnce_X5_windBeyond
set_option maxRecDepth 20000 in
theorem ggX5_stepOnce_X5_nodeBeyond : GoodIn wsX5_stepOnce wsX5_nodeBeyond := goodIn_r _ [16, 17, 27, 28, 29, 30, 31, 32, 33, 34, 35, 36] (by decide +kernel) (by decide +kernel)
set_option maxRecDepth 20000 in
theorem gX5_stepOnce_X5_nodeBeyond : GoodIn wsX5_stepOnce (wsV RX5 100 RX5 yX5_nodeBeyond wsX5_nodeBeyond) := goodIn_app (goodIn_of _ (by decide +kernel)) ggX5_stepOnce_X5_nodeBeyond
set_option maxRecDepth 20000 in
theorem ggX5_stepOnce_X5_raise : GoodIn wsX5_stepOnce wsX5_raise := goodIn_r _ [21, 22, 23, 24, 25, 26, 27, 28, 29, 30, 31, 32, 33, 34, 35, 36] (by decide +kernel) (by decide +kernel)
set_option maxRecDepth 20000 in
theorem gX5_stepOnce_X5_raise : GoodIn wsX5_stepOnce (wsV RX5 113 RX5 yX5_raise wsX5_raise) := goodIn_app (goodIn_of _ (by decide +kernel)) ggX5_stepOnce_X5_raise
theorem dX5_stepOnce_0 : decode cX5_stepOnce 0 = .ok (.aload_n 0, 1) := by decide +kernel
theorem dX5_stepOnce_1 : decode cX5_stepOnce 1 = .ok (.iload_n 1, 1) := by decide +kernel
theorem dX5_stepOnce_2 : decode cX5_stepOnce 2 = .ok (.iload_n 2, 1) := by decide +kernel
theorem dX5_stepOnce_3 : decode cX5_stepOnce 3 = .ok (.invokevirtual 96, 3) := by decide +kernel
theorem dX5_stepOnce_6 : decode cX5_stepOnce 6 = .ok (.istore_n 3, 1) := by decide +kernel
theorem dX5_stepOnce_7 : decode cX5_stepOnce 7 = .ok (.iload_n 3, 1) := by decide +kernel
theorem dX5_stepOnce_8 : decode cX5_stepOnce 8 = .ok (.ifCond .lt 14, 3) := by decide +kernel
theorem dX5_stepOnce_11 : decode cX5_stepOnce 11 = .ok (.aload_n 0, 1) := by decide +kernel
theorem dX5_stepOnce_12 : decode cX5_stepOnce 12 = .ok (.aload_n 0, 1) := by decide +kernel
theorem dX5_stepOnce_13 : decode cX5_stepOnce 13 = .ok (.iload_n 1, 1) := by decide +kernel
theorem dX5_stepOnce_14 : decode cX5_stepOnce 14 = .ok (.iload_n 2, 1) := by decide +kernel
theorem dX5_stepOnce_15 : decode cX5_stepOnce 15 = .ok (.invokevirtual 100, 3) := by decide +kernel
theorem dX5_stepOnce_18 : decode cX5_stepOnce 18 = .ok (.iload_n 3, 1) := by decide +kernel
theorem dX5_stepOnce_19 : decode cX5_stepOnce 19 = .ok (.invokevirtual 113, 3) := by decide +kernel
theorem dX5_stepOnce_22 : decode cX5_stepOnce 22 = .ok (.return_, 1) := by decide +kernel
theorem dX5_raise_0 : decode cX5_raise 0 = .ok (.aload_n 0, 1) := by decide +kernel
theorem dX5_raise_1 : decode cX5_raise 1 = .ok (.getfield 15, 3) := by decide +kernel
theorem dX5_raise_4 : decode cX5_raise 4 = .ok (.iload_n 1, 1) := by decide +kernel
theorem dX5_raise_5 : decode cX5_raise 5 = .ok (.aload_n 0, 1) := by decide +kernel
theorem dX5_raise_6 : decode cX5_raise 6 = .ok (.getfield 15, 3) := by decide +kernel
theorem dX5_raise_9 : decode cX5_raise 9 = .ok (.iload_n 1, 1) := by decide +kernel
theorem dX5_raise_10 : decode cX5_raise 10 = .ok (.iaload, 1) := by decide +kernel
theorem dX5_raise_11 : decode cX5_raise 11 = .ok (.iload_n 2, 1) := by decide +kernel
theorem dX5_raise_12 : decode cX5_raise 12 = .ok (.invokestatic 123, 3) := by decide +kernel
theorem dX5_raise_15 : decode cX5_raise 15 = .ok (.iastore, 1) := by decide +kernel
theorem dX5_raise_16 : decode cX5_raise 16 = .ok (.return_, 1) := by decide +kernel
set_option maxRecDepth 20000 in
theorem ggX6_init_X3_init : GoodIn wsX6_init wsX3_init := goodIn_r _ [37, 38, 2, 3, 33, 39, 79, 80] (by decide +kernel) (by decide +kernel)
set_option maxRecDepth 20000 in
theorem gX6_init_X3_init_n11 : GoodIn wsX6_init (wsX3_init) := ggX6_init_X3_init
set_option maxRecDepth 20000 in
theorem ggX6_init_X2_init : GoodIn wsX6_init wsX2_init := goodIn_r _ [41, 42, 2, 3, 33, 43, 44, 45, 46, 47, 94, 95, 96, 97, 98, 99, 100] (by decide +kernel) (by decide +kernel)
set_option maxRecDepth 20000 in
theorem gX6_init_X2_init_n18 : GoodIn wsX6_init (wsX2_init) := ggX6_init_X2_init
set_option maxRecDepth 20000 in
theorem ggX6_init_X4_init : GoodIn wsX6_init wsX4_init := goodIn_r _ [50, 51, 2, 3, 33, 52, 53, 54, 101, 102, 103, 104, 105, 106, 107] (by decide +kernel) (by decide +kernel)
set_option maxRecDepth 20000 in
theorem gX6_init_X4_init : GoodIn wsX6_init (wsX4_init) := ggX6_init_X4_init
set_option maxRecDepth 20000 in
theorem ggX6_init_X0_init : GoodIn wsX6_init wsX0_init := goodIn_r _ [57, 58, 2, 3, 59, 60, 14, 15, 61, 49, 50, 51, 33, 52, 53, 54, 108, 109, 110, 101, 102, 103, 104, 105, 106, 107] (by decide +kernel) (by decide +kernel)
set_option maxRecDepth 20000 in
theorem gX6_init_X0_init : GoodIn wsX6_init (wsX0_init) := ggX6_init_X0_init
set_option maxRecDepth 20000 in
theorem ggX6_init_X5_init : GoodIn wsX6_init wsX5_init := goodIn_r _ [64, 65, 2, 3, 33, 66, 67, 68, 69, 70, 71, 111, 112, 113, 114, 115, 116, 117, 118, 119, 120] (by decide +kernel) (by decide +kernel)
set_option maxRecDepth 20000 in
theorem gX6_init_X5_init : GoodIn wsX6_init (wsX5_init) := ggX6_init_X5_init
set_option maxRecDepth 20000 in
theorem ggX6_init_X1_init : GoodIn wsX6_init wsX1_init := goodIn_r _ [74, 75, 2, 3, 33, 76, 23, 77, 78, 121, 122, 123, 124] (by decide +kernel) (by decide +kernel)
set_option maxRecDepth 20000 in
theorem gX6_init_X1_init : GoodIn wsX6_init (wsX1_init) := ggX6_init_X1_init
theorem dX6_init_0 : decode cX6_init 0 = .ok (.aload_n 0, 1) := by decide +kernel
theorem dX6_init_1 : decode cX6_init 1 = .ok (.invokespecial 3, 3) := by decide +kernel
theorem dX6_init_4 : decode cX6_init 4 = .ok (.aload_n 0, 1) := by decide +kernel
theorem dX6_init_5 : decode cX6_init 5 = .ok (.new 9, 3) := by decide +kernel
theorem dX6_init_8 : decode cX6_init 8 = .ok (.dup, 1) := by decide +kernel
theorem dX6_init_9 : decode cX6_init 9 = .ok (.invokespecial 11, 3) := by decide +kernel
theorem dX6_init_12 : decode cX6_init 12 = .ok (.putfield 12, 3) := by decide +kernel
theorem dX6_init_15 : decode cX6_init 15 = .ok (.aload_n 0, 1) := by decide +kernel
theorem dX6_init_16 : decode cX6_init 16 = .ok (.new 16, 3) := by decide +kernel
theorem dX6_init_19 : decode cX6_init 19 = .ok (.dup, 1) := by decide +kernel
theorem dX6_init_20 : decode cX6_init 20 = .ok (.invokespecial 18, 3) := by decide +kernel
theorem dX6_init_23 : decode cX6_init 23 = .ok (.putfield 19, 3) := by decide +kernel
theorem dX6_init_26 : decode cX6_init 26 = .ok (.aload_n 0, 1) := by decide +kernel
theorem dX6_init_27 : decode cX6_init 27 = .ok (.new 16, 3) := by decide +kernel
theorem dX6_init_30 : decode cX6_init 30 = .ok (.dup, 1) := by decide +kernel
theorem dX6_init_31 : decode cX6_init 31 = .ok (.invokespecial 18, 3) := by decide +kernel
theorem dX6_init_34 : decode cX6_init 34 = .ok (.putfield 23, 3) := by decide +kernel
theorem dX6_init_37 : decode cX6_init 37 = .ok (.aload_n 0, 1) := by decide +kernel
theorem dX6_init_38 : decode cX6_init 38 = .ok (.new 26, 3) := by decide +kernel
theorem dX6_init_41 : decode cX6_init 41 = .ok (.dup, 1) := by decide +kernel
theorem dX6_init_42 : decode cX6_init 42 = .ok (.aload_n 0, 1) := by decide +kernel
theorem dX6_init_43 : decode cX6_init 43 = .ok (.getfield 23, 3) := by decide +kernel
theorem dX6_init_46 : decode cX6_init 46 = .ok (.invokespecial 28, 3) := by decide +kernel
theorem dX6_init_49 : decode cX6_init 49 = .ok (.putfield 31, 3) := by decide +kernel
theorem dX6_init_52 : decode cX6_init 52 = .ok (.aload_n 0, 1) := by decide +kernel
theorem dX6_init_53 : decode cX6_init 53 = .ok (.new 26, 3) := by decide +kernel
theorem dX6_init_56 : decode cX6_init 56 = .ok (.dup, 1) := by decide +kernel
theorem dX6_init_57 : decode cX6_init 57 = .ok (.aload_n 0, 1) := by decide +kernel
theorem dX6_init_58 : decode cX6_init 58 = .ok (.getfield 23, 3) := by decide +kernel
theorem dX6_init_61 : decode cX6_init 61 = .ok (.invokespecial 28, 3) := by decide +kernel
theorem dX6_init_64 : decode cX6_init 64 = .ok (.putfield 35, 3) := by decide +kernel
theorem dX6_init_67 : decode cX6_init 67 = .ok (.aload_n 0, 1) := by decide +kernel
theorem dX6_init_68 : decode cX6_init 68 = .ok (.new 38, 3) := by decide +kernel
theorem dX6_init_71 : decode cX6_init 71 = .ok (.dup, 1) := by decide +kernel
theorem dX6_init_72 : decode cX6_init 72 = .ok (.aload_n 0, 1) := by decide +kernel
theorem dX6_init_73 : decode cX6_init 73 = .ok (.getfield 23, 3) := by decide +kernel
theorem dX6_init_76 : decode cX6_init 76 = .ok (.invokespecial 40, 3) := by decide +kernel
theorem dX6_init_79 : decode cX6_init 79 = .ok (.putfield 41, 3) := by decide +kernel
theorem dX6_init_82 : decode cX6_init 82 = .ok (.aload_n 0, 1) := by decide +kernel
theorem dX6_init_83 : decode cX6_init 83 = .ok (.iconst 2, 1) := by decide +kernel
theorem dX6_init_84 : decode cX6_init 84 = .ok (.anewarray 26, 3) := by decide +kernel
theorem dX6_init_87 : decode cX6_init 87 = .ok (.putfield 45, 3) := by decide +kernel
theorem dX6_init_90 : decode cX6_init 90 = .ok (.aload_n 0, 1) := by decide +kernel
theorem dX6_init_91 : decode cX6_init 91 = .ok (.iconst 2, 1) := by decide +kernel
theorem dX6_init_92 : decode cX6_init 92 = .ok (.newarray .boolean, 2) := by decide +kernel
theorem dX6_init_94 : decode cX6_init 94 = .ok (.putfield 49, 3) := by decide +kernel
theorem dX6_init_97 : decode cX6_init 97 = .ok (.aload_n 0, 1) := by decide +kernel
theorem dX6_init_98 : decode cX6_init 98 = .ok (.new 53, 3) := by decide +kernel
theorem dX6_init_101 : decode cX6_init 101 = .ok (.dup, 1) := by decide +kernel
theorem dX6_init_102 : decode cX6_init 102 = .ok (.aload_n 0, 1) := by decide +kernel
theorem dX6_init_103 : decode cX6_init 103 = .ok (.getfield 23, 3) := by decide +kernel
theorem dX6_init_106 : decode cX6_init 106 = .ok (.invokespecial 55, 3) := by decide +kernel
theorem dX6_init_109 : decode cX6_init 109 = .ok (.putfield 56, 3) := by decide +kernel
theorem dX6_init_112 : decode cX6_init 112 = .ok (.aload_n 0, 1) := by decide +kernel
theorem dX6_init_113 : decode cX6_init 113 = .ok (.new 60, 3) := by decide +kernel
theorem dX6_init_116 : decode cX6_init 116 = .ok (.dup, 1) := by decide +kernel
theorem dX6_init_117 : decode cX6_init 117 = .ok (.aload_n 0, 1) := by decide +kernel
theorem dX6_init_118 : decode cX6_init 118 = .ok (.getfield 23, 3) := by decide +kernel
theorem dX6_init_121 : decode cX6_init 121 = .ok (.invokespecial 62, 3) := by decide +kernel
theorem dX6_init_124 : decode cX6_init 124 = .ok (.putfield 63, 3) := by decide +kernel
theorem dX6_init_127 : decode cX6_init 127 = .ok (.aload_n 0, 1) := by decide +kernel
theorem dX6_init_128 : decode cX6_init 128 = .ok (.bipush 9, 2) := by decide +kernel
theorem dX6_init_130 : decode cX6_init 130 = .ok (.newarray .int, 2) := by decide +kernel
theorem dX6_init_132 : decode cX6_init 132 = .ok (.putfield 67, 3) := by decide +kernel
theorem dX6_init_135 : decode cX6_init 135 = .ok (.aload_n 0, 1) := by decide +kernel
theorem dX6_init_136 : decode cX6_init 136 = .ok (.bipush 9, 2) := by decide +kernel
theorem dX6_init_138 : decode cX6_init 138 = .ok (.newarray .int, 2) := by decide +kernel
theorem dX6_init_140 : decode cX6_init 140 = .ok (.putfield 71, 3) := by decide +kernel
theorem dX6_init_143 : decode cX6_init 143 = .ok (.iconst 0, 1) := by decide +kernel
theorem dX6_init_144 : decode cX6_init 144 = .ok (.istore_n 1, 1) := by decide +kernel
theorem dX6_init_145 : decode cX6_init 145 = .ok (.iload_n 1, 1) := by decide +kernel
theorem dX6_init_146 : decode cX6_init 146 = .ok (.iconst 2, 1) := by decide +kernel
theorem dX6_init_147 : decode cX6_init 147 = .ok (.if_icmp .ge 26, 3) := by decide +kernel
theorem dX6_init_150 : decode cX6_init 150 = .ok (.aload_n 0, 1) := by decide +kernel
theorem dX6_init_151 : decode cX6_init 151 = .ok (.getfield 45, 3) := by decide +kernel
theorem dX6_init_154 : decode cX6_init 154 = .ok (.iload_n 1, 1) := by decide +kernel
theorem dX6_init_155 : decode cX6_init 155 = .ok (.new 26, 3) := by decide +kernel
theorem dX6_init_158 : decode cX6_init 158 = .ok (.dup, 1) := by decide +kernel
theorem dX6_init_159 : decode cX6_init 159 = .ok (.aload_n 0, 1) := by decide +kernel
theorem dX6_init_160 : decode cX6_init 160 = .ok (.getfield 23, 3) := by decide +kernel
theorem dX6_init_163 : decode cX6_init 163 = .ok (.invokespecial 28, 3) := by decide +kernel
theorem dX6_init_166 : decode cX6_init 166 = .ok (.aastore, 1) := by decide +kernel
theorem dX6_init_167 : decode cX6_init 167 = .ok (.iinc 1 1, 3) := by decide +kernel
theorem dX6_init_170 : decode cX6_init 170 = .ok (.goto (-25), 3) := by decide +kernel
theorem dX6_init_173 : decode cX6_init 173 = .ok (.return_, 1) := by decide +kernel
set_option maxRecDepth 20000 in
theorem ggX6_write_X3_append : GoodIn wsX6_write wsX3_append := goodIn_r _ [6, 7, 8, 22, 23] (by decide +kernel) (by decide +kernel)
set_option maxRecDepth 20000 in
theorem gX6_write_X3_append : GoodIn wsX6_write (wsV RX6 74 RX3 yX3_append wsX3_append) := goodIn_app (goodIn_of _ (by decide +kernel)) ggX6_write_X3_append
theorem dX6_write_0 : decode cX6_write 0 = .ok (.iload_n 1, 1) := by decide +kernel
theorem dX6_write_1 : decode cX6_write 1 = .ok (.ifCond .lt 10, 3) := by decide +kernel
theorem dX6_write_4 : decode cX6_write 4 = .ok (.iload_n 1, 1) := by decide +kernel
theorem dX6_write_5 : decode cX6_write 5 = .ok (.sipush 255, 3) := by decide +kernel
theorem dX6_write_8 : decode cX6_write 8 = .ok (.if_icmp .le 6, 3) := by decide +kernel
theorem dX6_write_11 : decode cX6_write 11 = .ok (.bipush (-2), 2) := by decide +kernel
theorem dX6_write_13 : decode cX6_write 13 = .ok (.ireturn, 1) := by decide +kernel
theorem dX6_write_14 : decode cX6_write 14 = .ok (.aload_n 0, 1) := by decide +kernel
theorem dX6_write_15 : decode cX6_write 15 = .ok (.getfield 12, 3) := by decide +kernel
theorem dX6_write_18 : decode cX6_write 18 = .ok (.iload_n 1, 1) := by decide +kernel
theorem dX6_write_19 : decode cX6_write 19 = .ok (.invokevirtual 74, 3) := by decide +kernel
theorem dX6_write_22 : decode cX6_write 22 = .ok (.ireturn, 1) := by decide +kernel
theorem dX6_wipe_0 : decode cX6_wipe 0 = .ok (.aload_n 0, 1) := by decide +kernel
theorem dX6_wipe_1 : decode cX6_wipe 1 = .ok (.getfield 12, 3) := by decide +kernel
theorem dX6_wipe_4 : decode cX6_wipe 4 = .ok (.getfield 78, 3) := by decide +kernel
theorem dX6_wipe_7 : decode cX6_wipe 7 = .ok (.istore_n 1, 1) := by decide +kernel
theorem dX6_wipe_8 : decode cX6_wipe 8 = .ok (.aload_n 0, 1) := by decide +kernel
theorem dX6_wipe_9 : decode cX6_wipe 9 = .ok (.getfield 12, 3) := by decide +kernel
theorem dX6_wipe_12 : decode cX6_wipe 12 = .ok (.iconst 0, 1) := by decide +kernel
theorem dX6_wipe_13 : decode cX6_wipe 13 = .ok (.putfield 78, 3) := by decide +kernel
theorem dX6_wipe_16 : decode cX6_wipe 16 = .ok (.iload_n 1, 1) := by decide +kernel
theorem dX6_wipe_17 : decode cX6_wipe 17 = .ok (.ireturn, 1) := by decide +kernel
set_option maxRecDepth 20000 in
theorem ggX6_fault_X3_readInto : GoodIn wsX6_fault wsX3_readInto := goodIn_r _ [7, 8, 9, 10, 11, 12, 13, 14, 15, 16, 17, 18, 19, 6, 20, 21, 22, 23, 24, 25, 26, 27, 28, 29, 30, 31, 32, 33, 34, 35, 36, 37, 38, 39, 40, 41, 42, 43, 44, 45, 46, 47, 48, 49, 50, 51, 52, 53, 54, 55, 69, 70, 71, 72, 73, 74, 75, 76, 77] (by decide +kernel) (by decide +kernel)
set_option maxRecDepth 20000 in
theorem gX6_fault_X3_readInto : GoodIn wsX6_fault (wsV RX6 82 RX3 yX3_readInto wsX3_readInto) := goodIn_app (goodIn_of _ (by decide +kernel)) ggX6_fault_X3_readInto
theorem dX6_fault_0 : decode cX6_fault 0 = .ok (.aload_n 0, 1) := by decide +kernel
theorem dX6_fault_1 : decode cX6_fault 1 = .ok (.getfield 12, 3) := by decide +kernel
theorem dX6_fault_4 : decode cX6_fault 4 = .ok (.aload_n 0, 1) := by decide +kernel
theorem dX6_fault_5 : decode cX6_fault 5 = .ok (.getfield 19, 3) := by decide +kernel
theorem dX6_fault_8 : decode cX6_fault 8 = .ok (.invokevirtual 82, 3) := by decide +kernel
theorem dX6_fault_11 : decode cX6_fault 11 = .ok (.ireturn, 1) := by decide +kernel
set_option maxRecDepth 20000 in
theorem ggX6_road_X3_readInto : GoodIn wsX6_road wsX3_readInto := goodIn_r _ [14, 15, 16, 17, 18, 19, 20, 21, 22, 23, 24, 25, 26, 13, 27, 28, 29, 30, 31, 32, 33, 34, 35, 36, 37, 38, 39, 40, 41, 42, 43, 44, 45, 46, 47, 48, 49, 50, 51, 52, 53, 54, 55, 56, 57, 58, 59, 60, 61, 62, 105, 106, 98, 99, 100, 101, 102, 103, 104] (by decide +kernel) (by decide +kernel)
set_option maxRecDepth 20000 in
theorem gX6_road_X3_readInto : GoodIn wsX6_road (wsV RX6 82 RX3 yX3_readInto wsX3_readInto) := goodIn_app (goodIn_of _ (by decide +kernel)) ggX6_road_X3_readInto
set_option maxRecDepth 20000 in
theorem ggX6_road_X4_begin : GoodIn wsX6_road wsX4_begin := goodIn_r _ [67, 68, 69, 70, 71, 72, 73, 74, 75, 76, 77, 78, 79, 80, 20, 81, 22, 47, 107, 108, 109, 110, 111, 112, 113, 98, 99, 100, 101, 102, 103, 104] (by decide +kernel) (by decide +kernel)
set_option maxRecDepth 20000 in
theorem gX6_road_X4_begin : GoodIn wsX6_road (wsV RX6 86 RX4 yX4_begin wsX4_begin) := goodIn_app (goodIn_of _ (by decide +kernel)) ggX6_road_X4_begin
theorem dX6_road_0 : decode cX6_road 0 = .ok (.aload_n 0, 1) := by decide +kernel
theorem dX6_road_1 : decode cX6_road 1 = .ok (.getfield 12, 3) := by decide +kernel
theorem dX6_road_4 : decode cX6_road 4 = .ok (.aload_n 0, 1) := by decide +kernel
theorem dX6_road_5 : decode cX6_road 5 = .ok (.getfield 19, 3) := by decide +kernel
theorem dX6_road_8 : decode cX6_road 8 = .ok (.invokevirtual 82, 3) := by decide +kernel
theorem dX6_road_11 : decode cX6_road 11 = .ok (.bipush (-9), 2) := by decide +kernel
theorem dX6_road_13 : decode cX6_road 13 = .ok (.if_icmp .eq 6, 3) := by decide +kernel
theorem dX6_road_16 : decode cX6_road 16 = .ok (.bipush (-3), 2) := by decide +kernel
theorem dX6_road_18 : decode cX6_road 18 = .ok (.ireturn, 1) := by decide +kernel
theorem dX6_road_19 : decode cX6_road 19 = .ok (.aload_n 0, 1) := by decide +kernel
theorem dX6_road_20 : decode cX6_road 20 = .ok (.getfield 12, 3) := by decide +kernel
theorem dX6_road_23 : decode cX6_road 23 = .ok (.aload_n 0, 1) := by decide +kernel
theorem dX6_road_24 : decode cX6_road 24 = .ok (.getfield 23, 3) := by decide +kernel
theorem dX6_road_27 : decode cX6_road 27 = .ok (.invokevirtual 82, 3) := by decide +kernel
theorem dX6_road_30 : decode cX6_road 30 = .ok (.pop, 1) := by decide +kernel
theorem dX6_road_31 : decode cX6_road 31 = .ok (.aload_n 0, 1) := by decide +kernel
theorem dX6_road_32 : decode cX6_road 32 = .ok (.getfield 31, 3) := by decide +kernel
theorem dX6_road_35 : decode cX6_road 35 = .ok (.invokevirtual 86, 3) := by decide +kernel
theorem dX6_road_38 : decode cX6_road 38 = .ok (.aload_n 0, 1) := by decide +kernel
theorem dX6_road_39 : decode cX6_road 39 = .ok (.getfield 41, 3) := by decide +kernel
theorem dX6_road_42 : decode cX6_road 42 = .ok (.iconst 0, 1) := by decide +kernel
theorem dX6_road_43 : decode cX6_road 43 = .ok (.putfield 89, 3) := by decide +kernel
theorem dX6_road_46 : decode cX6_road 46 = .ok (.iconst 0, 1) := by decide +kernel
theorem dX6_road_47 : decode cX6_road 47 = .ok (.istore_n 1, 1) := by decide +kernel
theorem dX6_road_48 : decode cX6_road 48 = .ok (.iload_n 1, 1) := by decide +kernel
theorem dX6_road_49 : decode cX6_road 49 = .ok (.iconst 2, 1) := by decide +kernel
theorem dX6_road_50 : decode cX6_road 50 = .ok (.if_icmp .ge 16, 3) := by decide +kernel
theorem dX6_road_53 : decode cX6_road 53 = .ok (.aload_n 0, 1) := by decide +kernel
theorem dX6_road_54 : decode cX6_road 54 = .ok (.getfield 49, 3) := by decide +kernel
theorem dX6_road_57 : decode cX6_road 57 = .ok (.iload_n 1, 1) := by decide +kernel
theorem dX6_road_58 : decode cX6_road 58 = .ok (.iconst 0, 1) := by decide +kernel
theorem dX6_road_59 : decode cX6_road 59 = .ok (.bastore, 1) := by decide +kernel
theorem dX6_road_60 : decode cX6_road 60 = .ok (.iinc 1 1, 3) := by decide +kernel
theorem dX6_road_63 : decode cX6_road 63 = .ok (.goto (-15), 3) := by decide +kernel
theorem dX6_road_66 : decode cX6_road 66 = .ok (.bipush 10, 2) := by decide +kernel
theorem dX6_road_68 : decode cX6_road 68 = .ok (.aload_n 0, 1) := by decide +kernel
theorem dX6_road_69 : decode cX6_road 69 = .ok (.getfield 23, 3) := by decide +kernel
theorem dX6_road_72 : decode cX6_road 72 = .ok (.getfield 90, 3) := by decide +kernel
theorem dX6_road_75 : decode cX6_road 75 = .ok (.imul, 1) := by decide +kernel
theorem dX6_road_76 : decode cX6_road 76 = .ok (.aload_n 0, 1) := by decide +kernel
theorem dX6_road_77 : decode cX6_road 77 = .ok (.getfield 23, 3) := by decide +kernel
theorem dX6_road_80 : decode cX6_road 80 = .ok (.getfield 93, 3) := by decide +kernel
theorem dX6_road_83 : decode cX6_road 83 = .ok (.iadd, 1) := by decide +kernel
theorem dX6_road_84 : decode cX6_road 84 = .ok (.ireturn, 1) := by decide +kernel
set_option maxRecDepth 20000 in
theorem ggX6_pleat_X2_hasPleat : GoodIn wsX6_pleat wsX2_hasPleat := goodIn_r _ [11, 12, 41, 42, 43, 44, 45, 46, 47] (by decide +kernel) (by decide +kernel)
set_option maxRecDepth 20000 in
theorem gX6_pleat_X2_hasPleat : GoodIn wsX6_pleat (wsV RX6 96 RX2 yX2_hasPleat wsX2_hasPleat) := goodIn_app (goodIn_of _ (by decide +kernel)) ggX6_pleat_X2_hasPleat
set_option maxRecDepth 20000 in
theorem ggX6_pleat_X4_costOf : GoodIn wsX6_pleat wsX4_costOf := goodIn_r _ [17, 18, 19, 20, 21, 22, 23, 24, 10, 25, 26, 27, 48, 49, 50, 51, 52, 53, 54, 41, 42, 43, 44, 45, 46, 47] (by decide +kernel) (by decide +kernel)
set_option maxRecDepth 20000 in
theorem gX6_pleat_X4_costOf : GoodIn wsX6_pleat (wsV RX6 106 RX4 yX4_costOf wsX4_costOf) := goodIn_app (goodIn_of _ (by decide +kernel)) ggX6_pleat_X4_costOf
theorem dX6_pleat_0 : decode cX6_pleat 0 = .ok (.aload_n 0, 1) := by decide +kernel
theorem dX6_pleat_1 : decode cX6_pleat 1 = .ok (.getfield 23, 3) := by decide +kernel
theorem dX6_pleat_4 : decode cX6_pleat 4 = .ok (.iload_n 1, 1) := by decide +kernel
theorem dX6_pleat_5 : decode cX6_pleat 5 = .ok (.invokevirtual 96, 3) := by decide +kernel
theorem dX6_pleat_8 : decode cX6_pleat 8 = .ok (.ifCond .ne 5, 3) := by decide +kernel
theorem dX6_pleat_11 : decode cX6_pleat 11 = .ok (.iconst (-1), 1) := by decide +kernel
theorem dX6_pleat_12 : decode cX6_pleat 12 = .ok (.ireturn, 1) := by decide +kernel
theorem dX6_pleat_13 : decode cX6_pleat 13 = .ok (.iload_n 2, 1) := by decide +kernel
theorem dX6_pleat_14 : decode cX6_pleat 14 = .ok (.tableswitch 87 0 4 #[34, 44, 54, 63, 75], 34) := by decide +kernel
theorem dX6_pleat_48 : decode cX6_pleat 48 = .ok (.aload_n 0, 1) := by decide +kernel
theorem dX6_pleat_49 : decode cX6_pleat 49 = .ok (.getfield 23, 3) := by decide +kernel
theorem dX6_pleat_52 : decode cX6_pleat 52 = .ok (.getfield 100, 3) := by decide +kernel
theorem dX6_pleat_55 : decode cX6_pleat 55 = .ok (.iload_n 1, 1) := by decide +kernel
theorem dX6_pleat_56 : decode cX6_pleat 56 = .ok (.iaload, 1) := by decide +kernel
theorem dX6_pleat_57 : decode cX6_pleat 57 = .ok (.ireturn, 1) := by decide +kernel
theorem dX6_pleat_58 : decode cX6_pleat 58 = .ok (.aload_n 0, 1) := by decide +kernel
theorem dX6_pleat_59 : decode cX6_pleat 59 = .ok (.getfield 23, 3) := by decide +kernel
theorem dX6_pleat_62 : decode cX6_pleat 62 = .ok (.getfield 103, 3) := by decide +kernel
theorem dX6_pleat_65 : decode cX6_pleat 65 = .ok (.iload_n 1, 1) := by decide +kernel
theorem dX6_pleat_66 : decode cX6_pleat 66 = .ok (.iaload, 1) := by decide +kernel
theorem dX6_pleat_67 : decode cX6_pleat 67 = .ok (.ireturn, 1) := by decide +kernel
theorem dX6_pleat_68 : decode cX6_pleat 68 = .ok (.aload_n 0, 1) := by decide +kernel
theorem dX6_pleat_69 : decode cX6_pleat 69 = .ok (.getfield 31, 3) := by decide +kernel
theorem dX6_pleat_72 : decode cX6_pleat 72 = .ok (.iload_n 1, 1) := by decide +kernel
theorem dX6_pleat_73 : decode cX6_pleat 73 = .ok (.invokevirtual 106, 3) := by decide +kernel
theorem dX6_pleat_76 : decode cX6_pleat 76 = .ok (.ireturn, 1) := by decide +kernel
theorem dX6_pleat_77 : decode cX6_pleat 77 = .ok (.aload_n 0, 1) := by decide +kernel
theorem dX6_pleat_78 : decode cX6_pleat 78 = .ok (.getfield 31, 3) := by decide +kernel
theorem dX6_pleat_81 : decode cX6_pleat 81 = .ok (.getfield 109, 3) := by decide +kernel
theorem dX6_pleat_84 : decode cX6_pleat 84 = .ok (.iload_n 1, 1) := by decide +kernel
theorem dX6_pleat_85 : decode cX6_pleat 85 = .ok (.ishr, 1) := by decide +kernel
theorem dX6_pleat_86 : decode cX6_pleat 86 = .ok (.iconst 1, 1) := by decide +kernel
theorem dX6_pleat_87 : decode cX6_pleat 87 = .ok (.iand, 1) := by decide +kernel
theorem dX6_pleat_88 : decode cX6_pleat 88 = .ok (.ireturn, 1) := by decide +kernel
theorem dX6_pleat_89 : decode cX6_pleat 89 = .ok (.aload_n 0, 1) := by decide +kernel
theorem dX6_pleat_90 : decode cX6_pleat 90 = .ok (.getfield 31, 3) := by decide +kernel
theorem dX6_pleat_93 : decode cX6_pleat 93 = .ok (.getfield 112, 3) := by decide +kernel
theorem dX6_pleat_96 : decode cX6_pleat 96 = .ok (.iload_n 1, 1) := by decide +kernel
theorem dX6_pleat_97 : decode cX6_pleat 97 = .ok (.ishr, 1) := by decide +kernel
theorem dX6_pleat_98 : decode cX6_pleat 98 = .ok (.iconst 1, 1) := by decide +kernel
theorem dX6_pleat_99 : decode cX6_pleat 99 = .ok (.iand, 1) := by decide +kernel
theorem dX6_pleat_100 : decode cX6_pleat 100 = .ok (.ireturn, 1) := by decide +kernel
theorem dX6_pleat_101 : decode cX6_pleat 101 = .ok (.bipush (-2), 2) := by decide +kernel
theorem dX6_pleat_103 : decode cX6_pleat 103 = .ok (.ireturn, 1) := by decide +kernel
set_option maxRecDepth 20000 in
theorem ggX6_traveller_X2_hasTraveller : GoodIn wsX6_traveller wsX2_hasTraveller := goodIn_r _ [11, 12, 66, 67, 68, 69, 70, 71, 72] (by decide +kernel) (by decide +kernel)
set_option maxRecDepth 20000 in
theorem gX6_traveller_X2_hasTraveller : GoodIn wsX6_traveller (wsV RX6 115 RX2 yX2_hasTraveller wsX2_hasTraveller) := goodIn_app (goodIn_of _ (by decide +kernel)) ggX6_traveller_X2_hasTraveller
set_option maxRecDepth 20000 in
theorem ggX6_traveller_X4_tollBeside : GoodIn wsX6_traveller wsX4_tollBeside := goodIn_r _ [17, 18, 19, 20, 21, 22, 16, 23, 24, 25, 26, 27, 10, 28, 29, 30, 31, 32, 33, 34, 35, 36, 37, 38, 39, 40, 41, 42, 43, 44, 45, 59, 60, 61, 62, 63, 64, 65, 66, 67, 68, 69, 70, 71, 72] (by decide +kernel) (by decide +kernel)
set_option maxRecDepth 20000 in
theorem gX6_traveller_X4_tollBeside : GoodIn wsX6_traveller (wsV RX6 130 RX4 yX4_tollBeside wsX4_tollBeside) := goodIn_app (goodIn_of _ (by decide +kernel)) ggX6_traveller_X4_tollBeside
theorem dX6_traveller_0 : decode cX6_traveller 0 = .ok (.aload_n 0, 1) := by decide +kernel
theorem dX6_traveller_1 : decode cX6_traveller 1 = .ok (.getfield 23, 3) := by decide +kernel
theorem dX6_traveller_4 : decode cX6_traveller 4 = .ok (.iload_n 1, 1) := by decide +kernel
theorem dX6_traveller_5 : decode cX6_traveller 5 = .ok (.invokevirtual 115, 3) := by decide +kernel
theorem dX6_traveller_8 : decode cX6_traveller 8 = .ok (.ifCond .ne 5, 3) := by decide +kernel
theorem dX6_traveller_11 : decode cX6_traveller 11 = .ok (.iconst (-1), 1) := by decide +kernel
theorem dX6_traveller_12 : decode cX6_traveller 12 = .ok (.ireturn, 1) := by decide +kernel
theorem dX6_traveller_13 : decode cX6_traveller 13 = .ok (.iload_n 2, 1) := by decide +kernel
theorem dX6_traveller_14 : decode cX6_traveller 14 = .ok (.tableswitch 98 0 5 #[38, 48, 58, 68, 78, 88], 38) := by decide +kernel
theorem dX6_traveller_52 : decode cX6_traveller 52 = .ok (.aload_n 0, 1) := by decide +kernel
theorem dX6_traveller_53 : decode cX6_traveller 53 = .ok (.getfield 31, 3) := by decide +kernel
theorem dX6_traveller_56 : decode cX6_traveller 56 = .ok (.getfield 118, 3) := by decide +kernel
theorem dX6_traveller_59 : decode cX6_traveller 59 = .ok (.iload_n 1, 1) := by decide +kernel
theorem dX6_traveller_60 : decode cX6_traveller 60 = .ok (.iaload, 1) := by decide +kernel
theorem dX6_traveller_61 : decode cX6_traveller 61 = .ok (.ireturn, 1) := by decide +kernel
theorem dX6_traveller_62 : decode cX6_traveller 62 = .ok (.aload_n 0, 1) := by decide +kernel
theorem dX6_traveller_63 : decode cX6_traveller 63 = .ok (.getfield 23, 3) := by decide +kernel
theorem dX6_traveller_66 : decode cX6_traveller 66 = .ok (.getfield 121, 3) := by decide +kernel
theorem dX6_traveller_69 : decode cX6_traveller 69 = .ok (.iload_n 1, 1) := by decide +kernel
theorem dX6_traveller_70 : decode cX6_traveller 70 = .ok (.iaload, 1) := by decide +kernel
theorem dX6_traveller_71 : decode cX6_traveller 71 = .ok (.ireturn, 1) := by decide +kernel
theorem dX6_traveller_72 : decode cX6_traveller 72 = .ok (.aload_n 0, 1) := by decide +kernel
theorem dX6_traveller_73 : decode cX6_traveller 73 = .ok (.getfield 23, 3) := by decide +kernel
theorem dX6_traveller_76 : decode cX6_traveller 76 = .ok (.getfield 124, 3) := by decide +kernel
theorem dX6_traveller_79 : decode cX6_traveller 79 = .ok (.iload_n 1, 1) := by decide +kernel
theorem dX6_traveller_80 : decode cX6_traveller 80 = .ok (.iaload, 1) := by decide +kernel
theorem dX6_traveller_81 : decode cX6_traveller 81 = .ok (.ireturn, 1) := by decide +kernel
theorem dX6_traveller_82 : decode cX6_traveller 82 = .ok (.aload_n 0, 1) := by decide +kernel
theorem dX6_traveller_83 : decode cX6_traveller 83 = .ok (.getfield 31, 3) := by decide +kernel
theorem dX6_traveller_86 : decode cX6_traveller 86 = .ok (.getfield 127, 3) := by decide +kernel
theorem dX6_traveller_89 : decode cX6_traveller 89 = .ok (.iload_n 1, 1) := by decide +kernel
theorem dX6_traveller_90 : decode cX6_traveller 90 = .ok (.iaload, 1) := by decide +kernel
theorem dX6_traveller_91 : decode cX6_traveller 91 = .ok (.ireturn, 1) := by decide +kernel
theorem dX6_traveller_92 : decode cX6_traveller 92 = .ok (.aload_n 0, 1) := by decide +kernel
theorem dX6_traveller_93 : decode cX6_traveller 93 = .ok (.getfield 31, 3) := by decide +kernel
theorem dX6_traveller_96 : decode cX6_traveller 96 = .ok (.iload_n 1, 1) := by decide +kernel
theorem dX6_traveller_97 : decode cX6_traveller 97 = .ok (.iconst 0, 1) := by decide +kernel
theorem dX6_traveller_98 : decode cX6_traveller 98 = .ok (.invokevirtual 130, 3) := by decide +kernel
theorem dX6_traveller_101 : decode cX6_traveller 101 = .ok (.ireturn, 1) := by decide +kernel
theorem dX6_traveller_102 : decode cX6_traveller 102 = .ok (.aload_n 0, 1) := by decide +kernel
theorem dX6_traveller_103 : decode cX6_traveller 103 = .ok (.getfield 31, 3) := by decide +kernel
theorem dX6_traveller_106 : decode cX6_traveller 106 = .ok (.iload_n 1, 1) := by decide +kernel
theorem dX6_traveller_107 : decode cX6_traveller 107 = .ok (.iconst 1, 1) := by decide +kernel
theorem dX6_traveller_108 : decode cX6_traveller 108 = .ok (.invokevirtual 130, 3) := by decide +kernel
theorem dX6_traveller_111 : decode cX6_traveller 111 = .ok (.ireturn, 1) := by decide +kernel
theorem dX6_traveller_112 : decode cX6_traveller 112 = .ok (.bipush (-2), 2) := by decide +kernel
theorem dX6_traveller_114 : decode cX6_traveller 114 = .ok (.ireturn, 1) := by decide +kernel
set_option maxRecDepth 20000 in
theorem ggX6_step_X2_hasTraveller : GoodIn wsX6_step wsX2_hasTraveller := goodIn_r _ [9, 10, 93, 94, 95, 96, 97, 98, 99] (by decide +kernel) (by decide +kernel)
set_option maxRecDepth 20000 in
theorem gX6_step_X2_hasTraveller : GoodIn wsX6_step (wsV RX6 115 RX2 yX2_hasTraveller wsX2_hasTraveller) := goodIn_app (goodIn_of _ (by decide +kernel)) ggX6_step_X2_hasTraveller
set_option maxRecDepth 20000 in
theorem ggX6_step_X4_canStep : GoodIn wsX6_step wsX4_canStep := goodIn_r _ [15, 16, 17, 18, 6, 7, 8, 9, 10, 19, 20, 21, 14, 22, 23, 24, 25, 26, 27, 28, 29, 30, 31, 32, 33, 34, 35, 36, 37, 38, 39, 40, 41, 42, 43, 44, 45, 46, 47, 48, 49, 86, 87, 88, 89, 90, 91, 92, 93, 94, 95, 96, 97, 98, 99] (by decide +kernel) (by decide +kernel)
set_option maxRecDepth 20000 in
theorem gX6_step_X4_canStep : GoodIn wsX6_step (wsV RX6 134 RX4 yX4_canStep wsX4_canStep) := goodIn_app (goodIn_of _ (by decide +kernel)) ggX6_step_X4_canStep
set_option maxRecDepth 20000 in
theorem ggX6_step_X0_remember : GoodIn wsX6_step wsX0_remember := goodIn_r _ [54, 55, 56, 57, 58, 59, 60, 61, 62, 63, 64, 14, 65, 28, 17, 40, 38, 39, 66, 100, 101, 102, 86, 87, 88, 89, 90, 91, 92] (by decide +kernel) (by decide +kernel)
set_option maxRecDepth 20000 in
theorem gX6_step_X0_remember : GoodIn wsX6_step (wsV RX6 138 RX0 yX0_remember wsX0_remember) := goodIn_app (goodIn_of _ (by decide +kernel)) ggX6_step_X0_remember
set_option maxRecDepth 20000 in
theorem ggX6_step_X4_doStep : GoodIn wsX6_step wsX4_doStep := goodIn_r _ [70, 16, 71, 17, 72, 28, 23, 38, 66, 24, 25, 26, 14, 27, 29, 30, 31, 8, 32, 33, 19, 20, 21, 22, 34, 35, 36, 37, 39, 40, 41, 42, 43, 44, 45, 46, 47, 48, 49, 86, 87, 88, 89, 90, 91, 92, 93, 94, 95, 96, 97, 98, 99] (by decide +kernel) (by decide +kernel)
set_option maxRecDepth 20000 in
theorem gX6_step_X4_doStep : GoodIn wsX6_step (wsV RX6 142 RX4 yX4_doStep wsX4_doStep) := goodIn_app (goodIn_of _ (by decide +kernel)) ggX6_step_X4_doStep
theorem dX6_step_0 : decode cX6_step 0 = .ok (.aload_n 0, 1) := by decide +kernel
theorem dX6_step_1 : decode cX6_step 1 = .ok (.getfield 23, 3) := by decide +kernel
theorem dX6_step_4 : decode cX6_step 4 = .ok (.iload_n 1, 1) := by decide +kernel
theorem dX6_step_5 : decode cX6_step 5 = .ok (.invokevirtual 115, 3) := by decide +kernel
theorem dX6_step_8 : decode cX6_step 8 = .ok (.ifCond .ne 5, 3) := by decide +kernel
theorem dX6_step_11 : decode cX6_step 11 = .ok (.iconst (-1), 1) := by decide +kernel
theorem dX6_step_12 : decode cX6_step 12 = .ok (.ireturn, 1) := by decide +kernel
theorem dX6_step_13 : decode cX6_step 13 = .ok (.aload_n 0, 1) := by decide +kernel
theorem dX6_step_14 : decode cX6_step 14 = .ok (.getfield 31, 3) := by decide +kernel
theorem dX6_step_17 : decode cX6_step 17 = .ok (.iload_n 1, 1) := by decide +kernel
theorem dX6_step_18 : decode cX6_step 18 = .ok (.iload_n 2, 1) := by decide +kernel
theorem dX6_step_19 : decode cX6_step 19 = .ok (.invokevirtual 134, 3) := by decide +kernel
theorem dX6_step_22 : decode cX6_step 22 = .ok (.ifCond .ne 6, 3) := by decide +kernel
theorem dX6_step_25 : decode cX6_step 25 = .ok (.bipush (-3), 2) := by decide +kernel
theorem dX6_step_27 : decode cX6_step 27 = .ok (.ireturn, 1) := by decide +kernel
theorem dX6_step_28 : decode cX6_step 28 = .ok (.aload_n 0, 1) := by decide +kernel
theorem dX6_step_29 : decode cX6_step 29 = .ok (.getfield 41, 3) := by decide +kernel
theorem dX6_step_32 : decode cX6_step 32 = .ok (.aload_n 0, 1) := by decide +kernel
theorem dX6_step_33 : decode cX6_step 33 = .ok (.getfield 31, 3) := by decide +kernel
theorem dX6_step_36 : decode cX6_step 36 = .ok (.invokevirtual 138, 3) := by decide +kernel
theorem dX6_step_39 : decode cX6_step 39 = .ok (.aload_n 0, 1) := by decide +kernel
theorem dX6_step_40 : decode cX6_step 40 = .ok (.getfield 31, 3) := by decide +kernel
theorem dX6_step_43 : decode cX6_step 43 = .ok (.iload_n 1, 1) := by decide +kernel
theorem dX6_step_44 : decode cX6_step 44 = .ok (.iload_n 2, 1) := by decide +kernel
theorem dX6_step_45 : decode cX6_step 45 = .ok (.invokevirtual 142, 3) := by decide +kernel
theorem dX6_step_48 : decode cX6_step 48 = .ok (.aload_n 0, 1) := by decide +kernel
theorem dX6_step_49 : decode cX6_step 49 = .ok (.getfield 31, 3) := by decide +kernel
theorem dX6_step_52 : decode cX6_step 52 = .ok (.getfield 118, 3) := by decide +kernel
theorem dX6_step_55 : decode cX6_step 55 = .ok (.iload_n 1, 1) := by decide +kernel
theorem dX6_step_56 : decode cX6_step 56 = .ok (.iaload, 1) := by decide +kernel
theorem dX6_step_57 : decode cX6_step 57 = .ok (.ireturn, 1) := by decide +kernel
set_option maxRecDepth 20000 in
theorem ggX6_rest_X2_hasTraveller : GoodIn wsX6_rest wsX2_hasTraveller := goodIn_r _ [9, 10, 67, 68, 69, 70, 71, 72, 73] (by decide +kernel) (by decide +kernel)
set_option maxRecDepth 20000 in
theorem gX6_rest_X2_hasTraveller : GoodIn wsX6_rest (wsV RX6 115 RX2 yX2_hasTraveller wsX2_hasTraveller) := goodIn_app (goodIn_of _ (by decide +kernel)) ggX6_rest_X2_hasTraveller
set_option maxRecDepth 20000 in
theorem ggX6_rest_X0_remember : GoodIn wsX6_rest wsX0_remember := goodIn_r _ [15, 16, 17, 18, 19, 20, 21, 22, 23, 24, 25, 26, 27, 28, 29, 30, 31, 32, 33, 74, 75, 76, 60, 61, 62, 63, 64, 65, 66] (by decide +kernel) (by decide +kernel)
set_option maxRecDepth 20000 in
theorem gX6_rest_X0_remember : GoodIn wsX6_rest (wsV RX6 138 RX0 yX0_remember wsX0_remember) := goodIn_app (goodIn_of _ (by decide +kernel)) ggX6_rest_X0_remember
set_option maxRecDepth 20000 in
theorem ggX6_rest_X4_doRest : GoodIn wsX6_rest wsX4_doRest := goodIn_r _ [37, 29, 38, 39, 31, 33, 40, 41, 8, 42, 43, 44, 21, 45, 46, 20, 22, 60, 61, 62, 63, 64, 65, 66, 67, 68, 69, 70, 71, 72, 73] (by decide +kernel) (by decide +kernel)
set_option maxRecDepth 20000 in
theorem gX6_rest_X4_doRest : GoodIn wsX6_rest (wsV RX6 146 RX4 yX4_doRest wsX4_doRest) := goodIn_app (goodIn_of _ (by decide +kernel)) ggX6_rest_X4_doRest
theorem dX6_rest_0 : decode cX6_rest 0 = .ok (.aload_n 0, 1) := by decide +kernel
theorem dX6_rest_1 : decode cX6_rest 1 = .ok (.getfield 23, 3) := by decide +kernel
theorem dX6_rest_4 : decode cX6_rest 4 = .ok (.iload_n 1, 1) := by decide +kernel
theorem dX6_rest_5 : decode cX6_rest 5 = .ok (.invokevirtual 115, 3) := by decide +kernel
theorem dX6_rest_8 : decode cX6_rest 8 = .ok (.ifCond .ne 5, 3) := by decide +kernel
theorem dX6_rest_11 : decode cX6_rest 11 = .ok (.iconst (-1), 1) := by decide +kernel
theorem dX6_rest_12 : decode cX6_rest 12 = .ok (.ireturn, 1) := by decide +kernel
theorem dX6_rest_13 : decode cX6_rest 13 = .ok (.aload_n 0, 1) := by decide +kernel
theorem dX6_rest_14 : decode cX6_rest 14 = .ok (.getfield 41, 3) := by decide +kernel
theorem dX6_rest_17 : decode cX6_rest 17 = .ok (.aload_n 0, 1) := by decide +kernel
theorem dX6_rest_18 : decode cX6_rest 18 = .ok (.getfield 31, 3) := by decide +kernel
theorem dX6_rest_21 : decode cX6_rest 21 = .ok (.invokevirtual 138, 3) := by decide +kernel
theorem dX6_rest_24 : decode cX6_rest 24 = .ok (.aload_n 0, 1) := by decide +kernel
theorem dX6_rest_25 : decode cX6_rest 25 = .ok (.getfield 31, 3) := by decide +kernel
theorem dX6_rest_28 : decode cX6_rest 28 = .ok (.iload_n 1, 1) := by decide +kernel
theorem dX6_rest_29 : decode cX6_rest 29 = .ok (.invokevirtual 146, 3) := by decide +kernel
theorem dX6_rest_32 : decode cX6_rest 32 = .ok (.aload_n 0, 1) := by decide +kernel
theorem dX6_rest_33 : decode cX6_rest 33 = .ok (.getfield 31, 3) := by decide +kernel
theorem dX6_rest_36 : decode cX6_rest 36 = .ok (.getfield 127, 3) := by decide +kernel
theorem dX6_rest_39 : decode cX6_rest 39 = .ok (.iload_n 1, 1) := by decide +kernel
theorem dX6_rest_40 : decode cX6_rest 40 = .ok (.iaload, 1) := by decide +kernel
theorem dX6_rest_41 : decode cX6_rest 41 = .ok (.ireturn, 1) := by decide +kernel
set_option maxRecDepth 20000 in
theorem ggX6_grease_X2_hasPleat : GoodIn wsX6_grease wsX2_hasPleat := goodIn_r _ [8, 9, 66, 67, 68, 69, 70, 71, 72] (by decide +kernel) (by decide +kernel)
set_option maxRecDepth 20000 in
theorem gX6_grease_X2_hasPleat : GoodIn wsX6_grease (wsV RX6 96 RX2 yX2_hasPleat wsX2_hasPleat) := goodIn_app (goodIn_of _ (by decide +kernel)) ggX6_grease_X2_hasPleat
set_option maxRecDepth 20000 in
theorem ggX6_grease_X4_canGrease : GoodIn wsX6_grease wsX4_canGrease := goodIn_r _ [14, 15, 16, 17, 5, 6, 7, 8, 9, 73, 74, 75, 76, 77, 78, 79, 66, 67, 68, 69, 70, 71, 72] (by decide +kernel) (by decide +kernel)
set_option maxRecDepth 20000 in
theorem gX6_grease_X4_canGrease : GoodIn wsX6_grease (wsV RX6 150 RX4 yX4_canGrease wsX4_canGrease) := goodIn_app (goodIn_of _ (by decide +kernel)) ggX6_grease_X4_canGrease
set_option maxRecDepth 20000 in
theorem ggX6_grease_X0_remember : GoodIn wsX6_grease wsX0_remember := goodIn_r _ [22, 23, 24, 25, 26, 27, 28, 29, 30, 31, 32, 13, 33, 34, 35, 16, 36, 37, 38, 80, 81, 82, 73, 74, 75, 76, 77, 78, 79] (by decide +kernel) (by decide +kernel)
set_option maxRecDepth 20000 in
theorem gX6_grease_X0_remember : GoodIn wsX6_grease (wsV RX6 138 RX0 yX0_remember wsX0_remember) := goodIn_app (goodIn_of _ (by decide +kernel)) ggX6_grease_X0_remember
set_option maxRecDepth 20000 in
theorem ggX6_grease_X4_doGrease : GoodIn wsX6_grease wsX4_doGrease := goodIn_r _ [42, 16, 73, 74, 75, 76, 77, 78, 79] (by decide +kernel) (by decide +kernel)
set_option maxRecDepth 20000 in
theorem gX6_grease_X4_doGrease : GoodIn wsX6_grease (wsV RX6 153 RX4 yX4_doGrease wsX4_doGrease) := goodIn_app (goodIn_of _ (by decide +kernel)) ggX6_grease_X4_doGrease
set_option maxRecDepth 20000 in
theorem ggX6_grease_X4_costOf : GoodIn wsX6_grease wsX4_costOf := goodIn_r _ [46, 36, 15, 37, 16, 47, 48, 49, 7, 50, 51, 52, 73, 74, 75, 76, 77, 78, 79, 66, 67, 68, 69, 70, 71, 72] (by decide +kernel) (by decide +kernel)
set_option maxRecDepth 20000 in
theorem gX6_grease_X4_costOf : GoodIn wsX6_grease (wsV RX6 106 RX4 yX4_costOf wsX4_costOf) := goodIn_app (goodIn_of _ (by decide +kernel)) ggX6_grease_X4_costOf
theorem dX6_grease_0 : decode cX6_grease 0 = .ok (.aload_n 0, 1) := by decide +kernel
theorem dX6_grease_1 : decode cX6_grease 1 = .ok (.getfield 23, 3) := by decide +kernel
theorem dX6_grease_4 : decode cX6_grease 4 = .ok (.iload_n 1, 1) := by decide +kernel
theorem dX6_grease_5 : decode cX6_grease 5 = .ok (.invokevirtual 96, 3) := by decide +kernel
theorem dX6_grease_8 : decode cX6_grease 8 = .ok (.ifCond .ne 5, 3) := by decide +kernel
theorem dX6_grease_11 : decode cX6_grease 11 = .ok (.iconst (-1), 1) := by decide +kernel
theorem dX6_grease_12 : decode cX6_grease 12 = .ok (.ireturn, 1) := by decide +kernel
theorem dX6_grease_13 : decode cX6_grease 13 = .ok (.aload_n 0, 1) := by decide +kernel
theorem dX6_grease_14 : decode cX6_grease 14 = .ok (.getfield 31, 3) := by decide +kernel
theorem dX6_grease_17 : decode cX6_grease 17 = .ok (.iload_n 1, 1) := by decide +kernel
theorem dX6_grease_18 : decode cX6_grease 18 = .ok (.invokevirtual 150, 3) := by decide +kernel
theorem dX6_grease_21 : decode cX6_grease 21 = .ok (.ifCond .ne 6, 3) := by decide +kernel
theorem dX6_grease_24 : decode cX6_grease 24 = .ok (.bipush (-3), 2) := by decide +kernel
theorem dX6_grease_26 : decode cX6_grease 26 = .ok (.ireturn, 1) := by decide +kernel
theorem dX6_grease_27 : decode cX6_grease 27 = .ok (.aload_n 0, 1) := by decide +kernel
theorem dX6_grease_28 : decode cX6_grease 28 = .ok (.getfield 41, 3) := by decide +kernel
theorem dX6_grease_31 : decode cX6_grease 31 = .ok (.aload_n 0, 1) := by decide +kernel
theorem dX6_grease_32 : decode cX6_grease 32 = .ok (.getfield 31, 3) := by decide +kernel
theorem dX6_grease_35 : decode cX6_grease 35 = .ok (.invokevirtual 138, 3) := by decide +kernel
theorem dX6_grease_38 : decode cX6_grease 38 = .ok (.aload_n 0, 1) := by decide +kernel
theorem dX6_grease_39 : decode cX6_grease 39 = .ok (.getfield 31, 3) := by decide +kernel
theorem dX6_grease_42 : decode cX6_grease 42 = .ok (.iload_n 1, 1) := by decide +kernel
theorem dX6_grease_43 : decode cX6_grease 43 = .ok (.invokevirtual 153, 3) := by decide +kernel
theorem dX6_grease_46 : decode cX6_grease 46 = .ok (.aload_n 0, 1) := by decide +kernel
theorem dX6_grease_47 : decode cX6_grease 47 = .ok (.getfield 31, 3) := by decide +kernel
theorem dX6_grease_50 : decode cX6_grease 50 = .ok (.iload_n 1, 1) := by decide +kernel
theorem dX6_grease_51 : decode cX6_grease 51 = .ok (.invokevirtual 106, 3) := by decide +kernel
theorem dX6_grease_54 : decode cX6_grease 54 = .ok (.ireturn, 1) := by decide +kernel
set_option maxRecDepth 20000 in
theorem ggX6_freeze_X4_canFreeze : GoodIn wsX6_freeze wsX4_canFreeze := goodIn_r _ [8, 9, 44, 45, 46, 47, 48, 49, 50] (by decide +kernel) (by decide +kernel)
set_option maxRecDepth 20000 in
theorem gX6_freeze_X4_canFreeze : GoodIn wsX6_freeze (wsV RX6 156 RX4 yX4_canFreeze wsX4_canFreeze) := goodIn_app (goodIn_of _ (by decide +kernel)) ggX6_freeze_X4_canFreeze
set_option maxRecDepth 20000 in
theorem ggX6_freeze_X0_remember : GoodIn wsX6_freeze wsX0_remember := goodIn_r _ [14, 15, 16, 17, 18, 19, 20, 21, 22, 23, 24, 7, 25, 26, 27, 28, 29, 9, 30, 51, 52, 53, 44, 45, 46, 47, 48, 49, 50] (by decide +kernel) (by decide +kernel)
set_option maxRecDepth 20000 in
theorem gX6_freeze_X0_remember : GoodIn wsX6_freeze (wsV RX6 138 RX0 yX0_remember wsX0_remember) := goodIn_app (goodIn_of _ (by decide +kernel)) ggX6_freeze_X0_remember
theorem dX6_freeze_0 : decode cX6_freeze 0 = .ok (.aload_n 0, 1) := by decide +kernel
theorem dX6_freeze_1 : decode cX6_freeze 1 = .ok (.getfield 31, 3) := by decide +kernel
theorem dX6_freeze_4 : decode cX6_freeze 4 = .ok (.invokevirtual 156, 3) := by decide +kernel
theorem dX6_freeze_7 : decode cX6_freeze 7 = .ok (.ifCond .ne 6, 3) := by decide +kernel
theorem dX6_freeze_10 : decode cX6_freeze 10 = .ok (.bipush (-3), 2) := by decide +kernel
theorem dX6_freeze_12 : decode cX6_freeze 12 = .ok (.ireturn, 1) := by decide +kernel
theorem dX6_freeze_13 : decode cX6_freeze 13 = .ok (.aload_n 0, 1) := by decide +kernel
theorem dX6_freeze_14 : decode cX6_freeze 14 = .ok (.getfield 41, 3) := by decide +kernel
theorem dX6_freeze_17 : decode cX6_freeze 17 = .ok (.aload_n 0, 1) := by decide +kernel
theorem dX6_freeze_18 : decode cX6_freeze 18 = .ok (.getfield 31, 3) := by decide +kernel
theorem dX6_freeze_21 : decode cX6_freeze 21 = .ok (.invokevirtual 138, 3) := by decide +kernel
theorem dX6_freeze_24 : decode cX6_freeze 24 = .ok (.aload_n 0, 1) := by decide +kernel
theorem dX6_freeze_25 : decode cX6_freeze 25 = .ok (.getfield 31, 3) := by decide +kernel
theorem dX6_freeze_28 : decode cX6_freeze 28 = .ok (.dup, 1) := by decide +kernel
theorem dX6_freeze_29 : decode cX6_freeze 29 = .ok (.getfield 160, 3) := by decide +kernel
theorem dX6_freeze_32 : decode cX6_freeze 32 = .ok (.iconst 1, 1) := by decide +kernel
theorem dX6_freeze_33 : decode cX6_freeze 33 = .ok (.iadd, 1) := by decide +kernel
theorem dX6_freeze_34 : decode cX6_freeze 34 = .ok (.putfield 160, 3) := by decide +kernel
theorem dX6_freeze_37 : decode cX6_freeze 37 = .ok (.aload_n 0, 1) := by decide +kernel
theorem dX6_freeze_38 : decode cX6_freeze 38 = .ok (.getfield 31, 3) := by decide +kernel
theorem dX6_freeze_41 : decode cX6_freeze 41 = .ok (.getfield 160, 3) := by decide +kernel
theorem dX6_freeze_44 : decode cX6_freeze 44 = .ok (.ireturn, 1) := by decide +kernel
set_option maxRecDepth 20000 in
theorem ggX6_thaw_X0_remember : GoodIn wsX6_thaw wsX0_remember := goodIn_r _ [8, 9, 10, 11, 12, 13, 14, 15, 16, 17, 18, 19, 20, 21, 22, 23, 24, 25, 26, 47, 48, 49, 40, 41, 42, 43, 44, 45, 46] (by decide +kernel) (by decide +kernel)
set_option maxRecDepth 20000 in
theorem gX6_thaw_X0_remember : GoodIn wsX6_thaw (wsV RX6 138 RX0 yX0_remember wsX0_remember) := goodIn_app (goodIn_of _ (by decide +kernel)) ggX6_thaw_X0_remember
theorem dX6_thaw_0 : decode cX6_thaw 0 = .ok (.aload_n 0, 1) := by decide +kernel
theorem dX6_thaw_1 : decode cX6_thaw 1 = .ok (.getfield 31, 3) := by decide +kernel
theorem dX6_thaw_4 : decode cX6_thaw 4 = .ok (.getfield 160, 3) := by decide +kernel
theorem dX6_thaw_7 : decode cX6_thaw 7 = .ok (.ifCond .ne 6, 3) := by decide +kernel
theorem dX6_thaw_10 : decode cX6_thaw 10 = .ok (.bipush (-3), 2) := by decide +kernel
theorem dX6_thaw_12 : decode cX6_thaw 12 = .ok (.ireturn, 1) := by decide +kernel
theorem dX6_thaw_13 : decode cX6_thaw 13 = .ok (.aload_n 0, 1) := by decide +kernel
theorem dX6_thaw_14 : decode cX6_thaw 14 = .ok (.getfield 41, 3) := by decide +kernel
theorem dX6_thaw_17 : decode cX6_thaw 17 = .ok (.aload_n 0, 1) := by decide +kernel
theorem dX6_thaw_18 : decode cX6_thaw 18 = .ok (.getfield 31, 3) := by decide +kernel
theorem dX6_thaw_21 : decode cX6_thaw 21 = .ok (.invokevirtual 138, 3) := by decide +kernel
theorem dX6_thaw_24 : decode cX6_thaw 24 = .ok (.aload_n 0, 1) := by decide +kernel
theorem dX6_thaw_25 : decode cX6_thaw 25 = .ok (.getfield 31, 3) := by decide +kernel
theorem dX6_thaw_28 : decode cX6_thaw 28 = .ok (.getfield 160, 3) := by decide +kernel
theorem dX6_thaw_31 : decode cX6_thaw 31 = .ok (.istore_n 1, 1) := by decide +kernel
theorem dX6_thaw_32 : decode cX6_thaw 32 = .ok (.aload_n 0, 1) := by decide +kernel
theorem dX6_thaw_33 : decode cX6_thaw 33 = .ok (.getfield 31, 3) := by decide +kernel
theorem dX6_thaw_36 : decode cX6_thaw 36 = .ok (.iconst 0, 1) := by decide +kernel
theorem dX6_thaw_37 : decode cX6_thaw 37 = .ok (.putfield 160, 3) := by decide +kernel
theorem dX6_thaw_40 : decode cX6_thaw 40 = .ok (.iload_n 1, 1) := by decide +kernel
theorem dX6_thaw_41 : decode cX6_thaw 41 = .ok (.ireturn, 1) := by decide +kernel
set_option maxRecDepth 20000 in
theorem ggX6_undo_X0_takeBack : GoodIn wsX6_undo wsX0_takeBack := goodIn_r _ [8, 9, 10, 11, 12, 13, 14, 15, 16, 17, 18, 19, 20, 21, 22, 36, 37, 38, 39, 40, 41, 42, 43, 44, 45] (by decide +kernel) (by decide +kernel)
set_option maxRecDepth 20000 in
theorem gX6_undo_X0_takeBack : GoodIn wsX6_undo (wsV RX6 163 RX0 yX0_takeBack wsX0_takeBack) := goodIn_app (goodIn_of _ (by decide +kernel)) ggX6_undo_X0_takeBack
theorem dX6_undo_0 : decode cX6_undo 0 = .ok (.aload_n 0, 1) := by decide +kernel
theorem dX6_undo_1 : decode cX6_undo 1 = .ok (.getfield 41, 3) := by decide +kernel
theorem dX6_undo_4 : decode cX6_undo 4 = .ok (.getfield 89, 3) := by decide +kernel
theorem dX6_undo_7 : decode cX6_undo 7 = .ok (.ifCond .ne 6, 3) := by decide +kernel
theorem dX6_undo_10 : decode cX6_undo 10 = .ok (.bipush (-3), 2) := by decide +kernel
theorem dX6_undo_12 : decode cX6_undo 12 = .ok (.ireturn, 1) := by decide +kernel
theorem dX6_undo_13 : decode cX6_undo 13 = .ok (.aload_n 0, 1) := by decide +kernel
theorem dX6_undo_14 : decode cX6_undo 14 = .ok (.getfield 41, 3) := by decide +kernel
theorem dX6_undo_17 : decode cX6_undo 17 = .ok (.aload_n 0, 1) := by decide +kernel
theorem dX6_undo_18 : decode cX6_undo 18 = .ok (.getfield 31, 3) := by decide +kernel
theorem dX6_undo_21 : decode cX6_undo 21 = .ok (.invokevirtual 163, 3) := by decide +kernel
theorem dX6_undo_24 : decode cX6_undo 24 = .ok (.aload_n 0, 1) := by decide +kernel
theorem dX6_undo_25 : decode cX6_undo 25 = .ok (.getfield 41, 3) := by decide +kernel
theorem dX6_undo_28 : decode cX6_undo 28 = .ok (.getfield 89, 3) := by decide +kernel
theorem dX6_undo_31 : decode cX6_undo 31 = .ok (.ireturn, 1) := by decide +kernel
set_option maxRecDepth 20000 in
theorem ggX6_reach_X2_hasTraveller : GoodIn wsX6_reach wsX2_hasTraveller := goodIn_r _ [7, 8, 87, 88, 89, 90, 91, 92, 93] (by decide +kernel) (by decide +kernel)
set_option maxRecDepth 20000 in
theorem gX6_reach_X2_hasTraveller : GoodIn wsX6_reach (wsV RX6 115 RX2 yX2_hasTraveller wsX2_hasTraveller) := goodIn_app (goodIn_of _ (by decide +kernel)) ggX6_reach_X2_hasTraveller
set_option maxRecDepth 20000 in
theorem ggX6_reach_X6_reachIn : GoodIn wsX6_reach wsX6_reachIn := goodIn_r _ [13, 14, 15, 16, 17, 18, 19, 20, 21, 22, 23, 24, 25, 26, 27, 28, 29, 30, 31, 32, 33, 34, 35, 36, 37, 6, 38, 39, 40, 41, 42, 43, 44, 45, 46, 47, 48, 49, 50, 51, 52, 53, 54, 55, 56, 57, 58, 59, 60, 61, 62, 63, 64, 65, 66, 67, 68, 69, 70, 71, 72, 73, 74, 75, 76, 77, 78, 79, 80, 81, 82, 83, 84, 85, 86, 94, 95, 96, 97, 98, 99, 100, 101, 102, 103, 104, 105, 106, 107, 108, 109, 110, 87, 88, 89, 90, 91, 92, 93] (by decide +kernel) (by decide +kernel)
set_option maxRecDepth 20000 in
theorem gX6_reach_X6_reachIn : GoodIn wsX6_reach (wsV RX6 166 RX6 yX6_reachIn wsX6_reachIn) := goodIn_app (goodIn_of _ (by decide +kernel)) ggX6_reach_X6_reachIn
theorem dX6_reach_0 : decode cX6_reach 0 = .ok (.aload_n 0, 1) := by decide +kernel
theorem dX6_reach_1 : decode cX6_reach 1 = .ok (.getfield 23, 3) := by decide +kernel
theorem dX6_reach_4 : decode cX6_reach 4 = .ok (.iload_n 1, 1) := by decide +kernel
theorem dX6_reach_5 : decode cX6_reach 5 = .ok (.invokevirtual 115, 3) := by decide +kernel
theorem dX6_reach_8 : decode cX6_reach 8 = .ok (.ifCond .ne 5, 3) := by decide +kernel
theorem dX6_reach_11 : decode cX6_reach 11 = .ok (.iconst (-1), 1) := by decide +kernel
theorem dX6_reach_12 : decode cX6_reach 12 = .ok (.ireturn, 1) := by decide +kernel
theorem dX6_reach_13 : decode cX6_reach 13 = .ok (.aload_n 0, 1) := by decide +kernel
theorem dX6_reach_14 : decode cX6_reach 14 = .ok (.aload_n 0, 1) := by decide +kernel
theorem dX6_reach_15 : decode cX6_reach 15 = .ok (.getfield 31, 3) := by decide +kernel
theorem dX6_reach_18 : decode cX6_reach 18 = .ok (.iload_n 1, 1) := by decide +kernel
theorem dX6_reach_19 : decode cX6_reach 19 = .ok (.invokevirtual 166, 3) := by decide +kernel
theorem dX6_reach_22 : decode cX6_reach 22 = .ok (.ireturn, 1) := by decide +kernel
set_option maxRecDepth 20000 in
theorem ggX6_fewest_X2_hasTraveller : GoodIn wsX6_fewest wsX2_hasTraveller := goodIn_r _ [9, 10, 117, 118, 119, 120, 121, 122, 123] (by decide +kernel) (by decide +kernel)
set_option maxRecDepth 20000 in
theorem gX6_fewest_X2_hasTraveller : GoodIn wsX6_fewest (wsV RX6 115 RX2 yX2_hasTraveller wsX2_hasTraveller) := goodIn_app (goodIn_of _ (by decide +kernel)) ggX6_fewest_X2_hasTraveller
set_option maxRecDepth 20000 in
theorem ggX6_fewest_X2_hasPlace : GoodIn wsX6_fewest wsX2_hasPlace := goodIn_r _ [14, 15, 117, 118, 119, 120, 121, 122, 123] (by decide +kernel) (by decide +kernel)
set_option maxRecDepth 20000 in
theorem gX6_fewest_X2_hasPlace : GoodIn wsX6_fewest (wsV RX6 170 RX2 yX2_hasPlace wsX2_hasPlace) := goodIn_app (goodIn_of _ (by decide +kernel)) ggX6_fewest_X2_hasPlace
set_option maxRecDepth 20000 in
theorem ggX6_fewest_X5_prepare : GoodIn wsX6_fewest wsX5_prepare := goodIn_r _ [20, 21, 22, 23, 24, 25, 26, 27, 28, 29, 30, 31, 32, 33, 34, 35, 36, 37, 8, 38, 39, 40, 41, 42, 43, 44, 45, 19, 46, 124, 125, 126, 127, 128, 129, 130, 131, 132, 133, 117, 118, 119, 120, 121, 122, 123, 110, 111, 112, 113, 114, 115, 116] (by decide +kernel) (by decide +kernel)
set_option maxRecDepth 20000 in
theorem gX6_fewest_X5_prepare : GoodIn wsX6_fewest (wsV RX6 173 RX5 yX5_prepare wsX5_prepare) := goodIn_app (goodIn_of _ (by decide +kernel)) ggX6_fewest_X5_prepare
set_option maxRecDepth 20000 in
theorem ggX6_fewest_X5_movesTo : GoodIn wsX6_fewest wsX5_movesTo := goodIn_r _ [50, 51, 52, 53, 54, 19, 55, 34, 31, 56, 57, 58, 59, 60, 61, 62, 63, 64, 28, 65, 66, 67, 68, 69, 70, 71, 72, 73, 74, 75, 76, 21, 23, 26, 24, 77, 78, 79, 80, 81, 29, 82, 83, 84, 85, 86, 87, 88, 89, 90, 91, 8, 92, 93, 94, 95, 96, 124, 125, 126, 127, 128, 129, 130, 131, 132, 133, 117, 118, 119, 120, 121, 122, 123] (by decide +kernel) (by decide +kernel)
set_option maxRecDepth 20000 in
theorem gX6_fewest_X5_movesTo : GoodIn wsX6_fewest (wsV RX6 177 RX5 yX5_movesTo wsX5_movesTo) := goodIn_app (goodIn_of _ (by decide +kernel)) ggX6_fewest_X5_movesTo
theorem dX6_fewest_0 : decode cX6_fewest 0 = .ok (.aload_n 0, 1) := by decide +kernel
theorem dX6_fewest_1 : decode cX6_fewest 1 = .ok (.getfield 23, 3) := by decide +kernel
theorem dX6_fewest_4 : decode cX6_fewest 4 = .ok (.iload_n 1, 1) := by decide +kernel
theorem dX6_fewest_5 : decode cX6_fewest 5 = .ok (.invokevirtual 115, 3) := by decide +kernel
theorem dX6_fewest_8 : decode cX6_fewest 8 = .ok (.ifCond .eq 14, 3) := by decide +kernel
theorem dX6_fewest_11 : decode cX6_fewest 11 = .ok (.aload_n 0, 1) := by decide +kernel
theorem dX6_fewest_12 : decode cX6_fewest 12 = .ok (.getfield 23, 3) := by decide +kernel
theorem dX6_fewest_15 : decode cX6_fewest 15 = .ok (.iload_n 2, 1) := by decide +kernel
theorem dX6_fewest_16 : decode cX6_fewest 16 = .ok (.invokevirtual 170, 3) := by decide +kernel
theorem dX6_fewest_19 : decode cX6_fewest 19 = .ok (.ifCond .ne 5, 3) := by decide +kernel
theorem dX6_fewest_22 : decode cX6_fewest 22 = .ok (.iconst (-1), 1) := by decide +kernel
theorem dX6_fewest_23 : decode cX6_fewest 23 = .ok (.ireturn, 1) := by decide +kernel
theorem dX6_fewest_24 : decode cX6_fewest 24 = .ok (.aload_n 0, 1) := by decide +kernel
theorem dX6_fewest_25 : decode cX6_fewest 25 = .ok (.getfield 56, 3) := by decide +kernel
theorem dX6_fewest_28 : decode cX6_fewest 28 = .ok (.aload_n 0, 1) := by decide +kernel
theorem dX6_fewest_29 : decode cX6_fewest 29 = .ok (.getfield 31, 3) := by decide +kernel
theorem dX6_fewest_32 : decode cX6_fewest 32 = .ok (.iload_n 1, 1) := by decide +kernel
theorem dX6_fewest_33 : decode cX6_fewest 33 = .ok (.aload_n 0, 1) := by decide +kernel
theorem dX6_fewest_34 : decode cX6_fewest 34 = .ok (.getfield 31, 3) := by decide +kernel
theorem dX6_fewest_37 : decode cX6_fewest 37 = .ok (.getfield 109, 3) := by decide +kernel
theorem dX6_fewest_40 : decode cX6_fewest 40 = .ok (.iconst 0, 1) := by decide +kernel
theorem dX6_fewest_41 : decode cX6_fewest 41 = .ok (.invokevirtual 173, 3) := by decide +kernel
theorem dX6_fewest_44 : decode cX6_fewest 44 = .ok (.aload_n 0, 1) := by decide +kernel
theorem dX6_fewest_45 : decode cX6_fewest 45 = .ok (.getfield 56, 3) := by decide +kernel
theorem dX6_fewest_48 : decode cX6_fewest 48 = .ok (.iload_n 2, 1) := by decide +kernel
theorem dX6_fewest_49 : decode cX6_fewest 49 = .ok (.invokevirtual 177, 3) := by decide +kernel
theorem dX6_fewest_52 : decode cX6_fewest 52 = .ok (.ireturn, 1) := by decide +kernel
set_option maxRecDepth 20000 in
theorem ggX6_wants_X2_hasTraveller : GoodIn wsX6_wants wsX2_hasTraveller := goodIn_r _ [9, 10, 100, 101, 102, 103, 104, 105, 106] (by decide +kernel) (by decide +kernel)
set_option maxRecDepth 20000 in
theorem gX6_wants_X2_hasTraveller : GoodIn wsX6_wants (wsV RX6 115 RX2 yX2_hasTraveller wsX2_hasTraveller) := goodIn_app (goodIn_of _ (by decide +kernel)) ggX6_wants_X2_hasTraveller
set_option maxRecDepth 20000 in
theorem ggX6_wants_X2_hasPlace : GoodIn wsX6_wants wsX2_hasPlace := goodIn_r _ [14, 15, 100, 101, 102, 103, 104, 105, 106] (by decide +kernel) (by decide +kernel)
set_option maxRecDepth 20000 in
theorem gX6_wants_X2_hasPlace : GoodIn wsX6_wants (wsV RX6 170 RX2 yX2_hasPlace wsX2_hasPlace) := goodIn_app (goodIn_of _ (by decide +kernel)) ggX6_wants_X2_hasPlace
set_option maxRecDepth 20000 in
theorem ggX6_wants_X6_comesWith : GoodIn wsX6_wants wsX6_comesWith := goodIn_r _ [20, 21, 3, 22, 23, 24, 25, 26, 27, 28, 29, 30, 31, 32, 33, 34, 35, 36, 37, 38, 39, 40, 41, 42, 43, 8, 44, 45, 46, 47, 48, 49, 50, 51, 52, 53, 54, 55, 56, 57, 58, 59, 60, 61, 62, 63, 64, 65, 66, 67, 68, 69, 70, 71, 72, 73, 74, 75, 76, 77, 78, 79, 87, 88, 89, 90, 91, 92, 93, 94, 95, 96, 97, 98, 99, 114, 115, 116, 117, 118, 119, 120, 121, 122, 123, 100, 101, 102, 103, 104, 105, 106, 107, 108, 109, 110, 111, 112, 113] (by decide +kernel) (by decide +kernel)
set_option maxRecDepth 20000 in
theorem gX6_wants_X6_comesWith : GoodIn wsX6_wants (wsV RX6 180 RX6 yX6_comesWith wsX6_comesWith) := goodIn_app (goodIn_of _ (by decide +kernel)) ggX6_wants_X6_comesWith
set_option maxRecDepth 20000 in
theorem ggX6_wants_J6_bitCount_0f7a4 : GoodIn wsX6_wants wsJ6_bitCount_0f7a4 := goodIn_r _ [83, 84, 85, 86] (by decide +kernel) (by decide +kernel)
set_option maxRecDepth 20000 in
theorem gX6_wants_J6_bitCount_0f7a4 : GoodIn wsX6_wants (va_wsS RX6 184 yJ6_bitCount_0f7a4 wsJ6_bitCount_0f7a4) := goodIn_app (goodIn_of _ (by decide +kernel)) ggX6_wants_J6_bitCount_0f7a4
theorem dX6_wants_0 : decode cX6_wants 0 = .ok (.aload_n 0, 1) := by decide +kernel
theorem dX6_wants_1 : decode cX6_wants 1 = .ok (.getfield 23, 3) := by decide +kernel
theorem dX6_wants_4 : decode cX6_wants 4 = .ok (.iload_n 1, 1) := by decide +kernel
theorem dX6_wants_5 : decode cX6_wants 5 = .ok (.invokevirtual 115, 3) := by decide +kernel
theorem dX6_wants_8 : decode cX6_wants 8 = .ok (.ifCond .eq 14, 3) := by decide +kernel
theorem dX6_wants_11 : decode cX6_wants 11 = .ok (.aload_n 0, 1) := by decide +kernel
theorem dX6_wants_12 : decode cX6_wants 12 = .ok (.getfield 23, 3) := by decide +kernel
theorem dX6_wants_15 : decode cX6_wants 15 = .ok (.iload_n 2, 1) := by decide +kernel
theorem dX6_wants_16 : decode cX6_wants 16 = .ok (.invokevirtual 170, 3) := by decide +kernel
theorem dX6_wants_19 : decode cX6_wants 19 = .ok (.ifCond .ne 5, 3) := by decide +kernel
theorem dX6_wants_22 : decode cX6_wants 22 = .ok (.iconst (-1), 1) := by decide +kernel
theorem dX6_wants_23 : decode cX6_wants 23 = .ok (.ireturn, 1) := by decide +kernel
theorem dX6_wants_24 : decode cX6_wants 24 = .ok (.iconst 1, 1) := by decide +kernel
theorem dX6_wants_25 : decode cX6_wants 25 = .ok (.aload_n 0, 1) := by decide +kernel
theorem dX6_wants_26 : decode cX6_wants 26 = .ok (.getfield 23, 3) := by decide +kernel
theorem dX6_wants_29 : decode cX6_wants 29 = .ok (.getfield 90, 3) := by decide +kernel
theorem dX6_wants_32 : decode cX6_wants 32 = .ok (.ishl, 1) := by decide +kernel
theorem dX6_wants_33 : decode cX6_wants 33 = .ok (.iconst 1, 1) := by decide +kernel
theorem dX6_wants_34 : decode cX6_wants 34 = .ok (.isub, 1) := by decide +kernel
theorem dX6_wants_35 : decode cX6_wants 35 = .ok (.istore_n 3, 1) := by decide +kernel
theorem dX6_wants_36 : decode cX6_wants 36 = .ok (.aload_n 0, 1) := by decide +kernel
theorem dX6_wants_37 : decode cX6_wants 37 = .ok (.iload_n 1, 1) := by decide +kernel
theorem dX6_wants_38 : decode cX6_wants 38 = .ok (.iload_n 2, 1) := by decide +kernel
theorem dX6_wants_39 : decode cX6_wants 39 = .ok (.iload_n 3, 1) := by decide +kernel
theorem dX6_wants_40 : decode cX6_wants 40 = .ok (.iconst 0, 1) := by decide +kernel
theorem dX6_wants_41 : decode cX6_wants 41 = .ok (.invokevirtual 180, 3) := by decide +kernel
theorem dX6_wants_44 : decode cX6_wants 44 = .ok (.ifCond .ne 6, 3) := by decide +kernel
theorem dX6_wants_47 : decode cX6_wants 47 = .ok (.bipush (-9), 2) := by decide +kernel
theorem dX6_wants_49 : decode cX6_wants 49 = .ok (.ireturn, 1) := by decide +kernel
theorem dX6_wants_50 : decode cX6_wants 50 = .ok (.iconst 0, 1) := by decide +kernel
theorem dX6_wants_51 : decode cX6_wants 51 = .ok (.istore 4, 2) := by decide +kernel
theorem dX6_wants_53 : decode cX6_wants 53 = .ok (.iload 4, 2) := by decide +kernel
theorem dX6_wants_55 : decode cX6_wants 55 = .ok (.aload_n 0, 1) := by decide +kernel
theorem dX6_wants_56 : decode cX6_wants 56 = .ok (.getfield 23, 3) := by decide +kernel
theorem dX6_wants_59 : decode cX6_wants 59 = .ok (.getfield 90, 3) := by decide +kernel
theorem dX6_wants_62 : decode cX6_wants 62 = .ok (.if_icmp .gt 70, 3) := by decide +kernel
theorem dX6_wants_65 : decode cX6_wants 65 = .ok (.iconst 0, 1) := by decide +kernel
theorem dX6_wants_66 : decode cX6_wants 66 = .ok (.istore 5, 2) := by decide +kernel
theorem dX6_wants_68 : decode cX6_wants 68 = .ok (.iload 5, 2) := by decide +kernel
theorem dX6_wants_70 : decode cX6_wants 70 = .ok (.iload_n 3, 1) := by decide +kernel
theorem dX6_wants_71 : decode cX6_wants 71 = .ok (.if_icmp .gt 55, 3) := by decide +kernel
theorem dX6_wants_74 : decode cX6_wants 74 = .ok (.iload 5, 2) := by decide +kernel
theorem dX6_wants_76 : decode cX6_wants 76 = .ok (.invokestatic 184, 3) := by decide +kernel
theorem dX6_wants_79 : decode cX6_wants 79 = .ok (.iload 4, 2) := by decide +kernel
theorem dX6_wants_81 : decode cX6_wants 81 = .ok (.if_icmp .ne 39, 3) := by decide +kernel
theorem dX6_wants_84 : decode cX6_wants 84 = .ok (.iload 5, 2) := by decide +kernel
theorem dX6_wants_86 : decode cX6_wants 86 = .ok (.aload_n 0, 1) := by decide +kernel
theorem dX6_wants_87 : decode cX6_wants 87 = .ok (.getfield 31, 3) := by decide +kernel
theorem dX6_wants_90 : decode cX6_wants 90 = .ok (.getfield 109, 3) := by decide +kernel
theorem dX6_wants_93 : decode cX6_wants 93 = .ok (.iand, 1) := by decide +kernel
theorem dX6_wants_94 : decode cX6_wants 94 = .ok (.ifCond .ne 26, 3) := by decide +kernel
theorem dX6_wants_97 : decode cX6_wants 97 = .ok (.aload_n 0, 1) := by decide +kernel
theorem dX6_wants_98 : decode cX6_wants 98 = .ok (.iload_n 1, 1) := by decide +kernel
theorem dX6_wants_99 : decode cX6_wants 99 = .ok (.iload_n 2, 1) := by decide +kernel
theorem dX6_wants_100 : decode cX6_wants 100 = .ok (.aload_n 0, 1) := by decide +kernel
theorem dX6_wants_101 : decode cX6_wants 101 = .ok (.getfield 31, 3) := by decide +kernel
theorem dX6_wants_104 : decode cX6_wants 104 = .ok (.getfield 109, 3) := by decide +kernel
theorem dX6_wants_107 : decode cX6_wants 107 = .ok (.iload 5, 2) := by decide +kernel
theorem dX6_wants_109 : decode cX6_wants 109 = .ok (.ior, 1) := by decide +kernel
theorem dX6_wants_110 : decode cX6_wants 110 = .ok (.iconst 0, 1) := by decide +kernel
theorem dX6_wants_111 : decode cX6_wants 111 = .ok (.invokevirtual 180, 3) := by decide +kernel
theorem dX6_wants_114 : decode cX6_wants 114 = .ok (.ifCond .eq 6, 3) := by decide +kernel
theorem dX6_wants_117 : decode cX6_wants 117 = .ok (.iload 5, 2) := by decide +kernel
theorem dX6_wants_119 : decode cX6_wants 119 = .ok (.ireturn, 1) := by decide +kernel
theorem dX6_wants_120 : decode cX6_wants 120 = .ok (.iinc 5 1, 3) := by decide +kernel
theorem dX6_wants_123 : decode cX6_wants 123 = .ok (.goto (-55), 3) := by decide +kernel
theorem dX6_wants_126 : decode cX6_wants 126 = .ok (.iinc 4 1, 3) := by decide +kernel
theorem dX6_wants_129 : decode cX6_wants 129 = .ok (.goto (-76), 3) := by decide +kernel
theorem dX6_wants_132 : decode cX6_wants 132 = .ok (.bipush (-9), 2) := by decide +kernel
theorem dX6_wants_134 : decode cX6_wants 134 = .ok (.ireturn, 1) := by decide +kernel
set_option maxRecDepth 20000 in
theorem ggX6_shutIn_X6_reachIn : GoodIn wsX6_shutIn wsX6_reachIn := goodIn_r _ [9, 10, 11, 12, 13, 14, 15, 16, 17, 18, 19, 20, 21, 22, 23, 24, 25, 26, 27, 28, 29, 30, 31, 32, 33, 34, 35, 36, 37, 38, 39, 40, 41, 42, 43, 44, 45, 46, 47, 48, 49, 50, 51, 52, 53, 54, 55, 56, 57, 58, 59, 60, 61, 62, 63, 64, 65, 66, 67, 68, 69, 70, 71, 72, 73, 74, 75, 76, 77, 78, 79, 80, 81, 82, 83, 91, 92, 93, 94, 95, 96, 97, 98, 99, 100, 101, 102, 103, 104, 105, 106, 107, 84, 85, 86, 87, 88, 89, 90] (by decide +kernel) (by decide +kernel)
set_option maxRecDepth 20000 in
theorem gX6_shutIn_X6_reachIn : GoodIn wsX6_shutIn (wsV RX6 166 RX6 yX6_reachIn wsX6_reachIn) := goodIn_app (goodIn_of _ (by decide +kernel)) ggX6_shutIn_X6_reachIn
theorem dX6_shutIn_0 : decode cX6_shutIn 0 = .ok (.iconst 0, 1) := by decide +kernel
theorem dX6_shutIn_1 : decode cX6_shutIn 1 = .ok (.istore_n 1, 1) := by decide +kernel
theorem dX6_shutIn_2 : decode cX6_shutIn 2 = .ok (.iconst 0, 1) := by decide +kernel
theorem dX6_shutIn_3 : decode cX6_shutIn 3 = .ok (.istore_n 2, 1) := by decide +kernel
theorem dX6_shutIn_4 : decode cX6_shutIn 4 = .ok (.iload_n 2, 1) := by decide +kernel
theorem dX6_shutIn_5 : decode cX6_shutIn 5 = .ok (.aload_n 0, 1) := by decide +kernel
theorem dX6_shutIn_6 : decode cX6_shutIn 6 = .ok (.getfield 23, 3) := by decide +kernel
theorem dX6_shutIn_9 : decode cX6_shutIn 9 = .ok (.getfield 93, 3) := by decide +kernel
theorem dX6_shutIn_12 : decode cX6_shutIn 12 = .ok (.if_icmp .ge 38, 3) := by decide +kernel
theorem dX6_shutIn_15 : decode cX6_shutIn 15 = .ok (.aload_n 0, 1) := by decide +kernel
theorem dX6_shutIn_16 : decode cX6_shutIn 16 = .ok (.aload_n 0, 1) := by decide +kernel
theorem dX6_shutIn_17 : decode cX6_shutIn 17 = .ok (.getfield 31, 3) := by decide +kernel
theorem dX6_shutIn_20 : decode cX6_shutIn 20 = .ok (.iload_n 2, 1) := by decide +kernel
theorem dX6_shutIn_21 : decode cX6_shutIn 21 = .ok (.invokevirtual 166, 3) := by decide +kernel
theorem dX6_shutIn_24 : decode cX6_shutIn 24 = .ok (.iconst 1, 1) := by decide +kernel
theorem dX6_shutIn_25 : decode cX6_shutIn 25 = .ok (.aload_n 0, 1) := by decide +kernel
theorem dX6_shutIn_26 : decode cX6_shutIn 26 = .ok (.getfield 31, 3) := by decide +kernel
theorem dX6_shutIn_29 : decode cX6_shutIn 29 = .ok (.getfield 118, 3) := by decide +kernel
theorem dX6_shutIn_32 : decode cX6_shutIn 32 = .ok (.iload_n 2, 1) := by decide +kernel
theorem dX6_shutIn_33 : decode cX6_shutIn 33 = .ok (.iaload, 1) := by decide +kernel
theorem dX6_shutIn_34 : decode cX6_shutIn 34 = .ok (.ishl, 1) := by decide +kernel
theorem dX6_shutIn_35 : decode cX6_shutIn 35 = .ok (.if_icmp .ne 9, 3) := by decide +kernel
theorem dX6_shutIn_38 : decode cX6_shutIn 38 = .ok (.iload_n 1, 1) := by decide +kernel
theorem dX6_shutIn_39 : decode cX6_shutIn 39 = .ok (.iconst 1, 1) := by decide +kernel
theorem dX6_shutIn_40 : decode cX6_shutIn 40 = .ok (.iload_n 2, 1) := by decide +kernel
theorem dX6_shutIn_41 : decode cX6_shutIn 41 = .ok (.ishl, 1) := by decide +kernel
theorem dX6_shutIn_42 : decode cX6_shutIn 42 = .ok (.ior, 1) := by decide +kernel
theorem dX6_shutIn_43 : decode cX6_shutIn 43 = .ok (.istore_n 1, 1) := by decide +kernel
theorem dX6_shutIn_44 : decode cX6_shutIn 44 = .ok (.iinc 2 1, 3) := by decide +kernel
theorem dX6_shutIn_47 : decode cX6_shutIn 47 = .ok (.goto (-43), 3) := by decide +kernel
theorem dX6_shutIn_50 : decode cX6_shutIn 50 = .ok (.iload_n 1, 1) := by decide +kernel
theorem dX6_shutIn_51 : decode cX6_shutIn 51 = .ok (.ireturn, 1) := by decide +kernel
set_option maxRecDepth 20000 in
theorem ggX6_meet_X2_hasTraveller : GoodIn wsX6_meet wsX2_hasTraveller := goodIn_r _ [7, 8, 87, 88, 89, 90, 91, 92, 93] (by decide +kernel) (by decide +kernel)
set_option maxRecDepth 20000 in
theorem gX6_meet_X2_hasTraveller : GoodIn wsX6_meet (wsV RX6 115 RX2 yX2_hasTraveller wsX2_hasTraveller) := goodIn_app (goodIn_of _ (by decide +kernel)) ggX6_meet_X2_hasTraveller
set_option maxRecDepth 20000 in
theorem ggX6_meet_X6_reachIn : GoodIn wsX6_meet wsX6_reachIn := goodIn_r _ [13, 14, 15, 16, 17, 18, 19, 20, 21, 22, 23, 24, 25, 26, 27, 28, 29, 30, 31, 32, 33, 34, 35, 36, 37, 6, 38, 39, 40, 41, 42, 43, 44, 45, 46, 47, 48, 49, 50, 51, 52, 53, 54, 55, 56, 57, 58, 59, 60, 61, 62, 63, 64, 65, 66, 67, 68, 69, 70, 71, 72, 73, 74, 75, 76, 77, 78, 79, 80, 81, 82, 83, 84, 85, 86, 94, 95, 96, 97, 98, 99, 100, 101, 102, 103, 104, 105, 106, 107, 108, 109, 110, 87, 88, 89, 90, 91, 92, 93] (by decide +kernel) (by decide +kernel)
set_option maxRecDepth 20000 in
theorem gX6_meet_X6_reachIn : GoodIn wsX6_meet (wsV RX6 166 RX6 yX6_reachIn wsX6_reachIn) := goodIn_app (goodIn_of _ (by decide +kernel)) ggX6_meet_X6_reachIn
theorem dX6_meet_0 : decode cX6_meet 0 = .ok (.aload_n 0, 1) := by decide +kernel
theorem dX6_meet_1 : decode cX6_meet 1 = .ok (.getfield 23, 3) := by decide +kernel
theorem dX6_meet_4 : decode cX6_meet 4 = .ok (.iload_n 1, 1) := by decide +kernel
theorem dX6_meet_5 : decode cX6_meet 5 = .ok (.invokevirtual 115, 3) := by decide +kernel
theorem dX6_meet_8 : decode cX6_meet 8 = .ok (.ifCond .eq 14, 3) := by decide +kernel
theorem dX6_meet_11 : decode cX6_meet 11 = .ok (.aload_n 0, 1) := by decide +kernel
theorem dX6_meet_12 : decode cX6_meet 12 = .ok (.getfield 23, 3) := by decide +kernel
theorem dX6_meet_15 : decode cX6_meet 15 = .ok (.iload_n 2, 1) := by decide +kernel
theorem dX6_meet_16 : decode cX6_meet 16 = .ok (.invokevirtual 115, 3) := by decide +kernel
theorem dX6_meet_19 : decode cX6_meet 19 = .ok (.ifCond .ne 5, 3) := by decide +kernel
theorem dX6_meet_22 : decode cX6_meet 22 = .ok (.iconst (-1), 1) := by decide +kernel
theorem dX6_meet_23 : decode cX6_meet 23 = .ok (.ireturn, 1) := by decide +kernel
theorem dX6_meet_24 : decode cX6_meet 24 = .ok (.aload_n 0, 1) := by decide +kernel
theorem dX6_meet_25 : decode cX6_meet 25 = .ok (.aload_n 0, 1) := by decide +kernel
theorem dX6_meet_26 : decode cX6_meet 26 = .ok (.getfield 31, 3) := by decide +kernel
theorem dX6_meet_29 : decode cX6_meet 29 = .ok (.iload_n 1, 1) := by decide +kernel
theorem dX6_meet_30 : decode cX6_meet 30 = .ok (.invokevirtual 166, 3) := by decide +kernel
theorem dX6_meet_33 : decode cX6_meet 33 = .ok (.aload_n 0, 1) := by decide +kernel
theorem dX6_meet_34 : decode cX6_meet 34 = .ok (.aload_n 0, 1) := by decide +kernel
theorem dX6_meet_35 : decode cX6_meet 35 = .ok (.getfield 31, 3) := by decide +kernel
theorem dX6_meet_38 : decode cX6_meet 38 = .ok (.iload_n 2, 1) := by decide +kernel
theorem dX6_meet_39 : decode cX6_meet 39 = .ok (.invokevirtual 166, 3) := by decide +kernel
theorem dX6_meet_42 : decode cX6_meet 42 = .ok (.iand, 1) := by decide +kernel
theorem dX6_meet_43 : decode cX6_meet 43 = .ok (.ireturn, 1) := by decide +kernel
set_option maxRecDepth 20000 in
theorem ggX6_judge_X4_takeFrom : GoodIn wsX6_judge wsX4_takeFrom := goodIn_r _ [9, 10, 11, 12, 13, 14, 15, 119, 120, 121, 122, 123, 124, 125] (by decide +kernel) (by decide +kernel)
set_option maxRecDepth 20000 in
theorem gX6_judge_X4_takeFrom : GoodIn wsX6_judge (wsV RX6 193 RX4 yX4_takeFrom wsX4_takeFrom) := goodIn_app (goodIn_of _ (by decide +kernel)) ggX6_judge_X4_takeFrom
set_option maxRecDepth 20000 in
theorem ggX6_judge_X4_doTold : GoodIn wsX6_judge wsX4_doTold := goodIn_r _ [19, 20, 10, 21, 22, 23, 8, 24, 25, 26, 27, 28, 11, 29, 30, 31, 32, 33, 34, 35, 36, 37, 38, 39, 40, 41, 42, 43, 44, 45, 46, 47, 48, 49, 50, 51, 52, 13, 14, 12, 53, 54, 55, 56, 57, 58, 59, 60, 61, 62, 63, 64, 65, 66, 67, 15, 68, 69, 70, 71, 72, 73, 74, 75, 76, 77, 78, 79, 80, 81, 82, 83, 84, 85, 86, 87, 88, 89, 90, 91, 92, 93, 94, 95, 96, 97, 98, 99, 100, 101, 102, 103, 104, 105, 119, 120, 121, 122, 123, 124, 125, 126, 127, 128, 129, 130, 131, 132] (by decide +kernel) (by decide +kernel)
set_option maxRecDepth 20000 in
theorem gX6_judge_X4_doTold : GoodIn wsX6_judge (wsV RX6 198 RX4 yX4_doTold wsX4_doTold) := goodIn_app (goodIn_of _ (by decide +kernel)) ggX6_judge_X4_doTold
theorem dX6_judge_0 : decode cX6_judge 0 = .ok (.iload_n 1, 1) := by decide +kernel
theorem dX6_judge_1 : decode cX6_judge 1 = .ok (.iconst 1, 1) := by decide +kernel
theorem dX6_judge_2 : decode cX6_judge 2 = .ok (.if_icmp .lt 24, 3) := by decide +kernel
theorem dX6_judge_5 : decode cX6_judge 5 = .ok (.iload_n 1, 1) := by decide +kernel
theorem dX6_judge_6 : decode cX6_judge 6 = .ok (.iconst 4, 1) := by decide +kernel
theorem dX6_judge_7 : decode cX6_judge 7 = .ok (.if_icmp .gt 19, 3) := by decide +kernel
theorem dX6_judge_10 : decode cX6_judge 10 = .ok (.lload_n 2, 1) := by decide +kernel
theorem dX6_judge_11 : decode cX6_judge 11 = .ok (.lconst 0, 1) := by decide +kernel
theorem dX6_judge_12 : decode cX6_judge 12 = .ok (.lcmp, 1) := by decide +kernel
theorem dX6_judge_13 : decode cX6_judge 13 = .ok (.ifCond .lt 13, 3) := by decide +kernel
theorem dX6_judge_16 : decode cX6_judge 16 = .ok (.lload_n 2, 1) := by decide +kernel
theorem dX6_judge_17 : decode cX6_judge 17 = .ok (.getstatic 189, 3) := by decide +kernel
theorem dX6_judge_20 : decode cX6_judge 20 = .ok (.iload_n 1, 1) := by decide +kernel
theorem dX6_judge_21 : decode cX6_judge 21 = .ok (.laload, 1) := by decide +kernel
theorem dX6_judge_22 : decode cX6_judge 22 = .ok (.lcmp, 1) := by decide +kernel
theorem dX6_judge_23 : decode cX6_judge 23 = .ok (.ifCond .lt 6, 3) := by decide +kernel
theorem dX6_judge_26 : decode cX6_judge 26 = .ok (.bipush (-2), 2) := by decide +kernel
theorem dX6_judge_28 : decode cX6_judge 28 = .ok (.ireturn, 1) := by decide +kernel
theorem dX6_judge_29 : decode cX6_judge 29 = .ok (.aload_n 0, 1) := by decide +kernel
theorem dX6_judge_30 : decode cX6_judge 30 = .ok (.getfield 35, 3) := by decide +kernel
theorem dX6_judge_33 : decode cX6_judge 33 = .ok (.aload_n 0, 1) := by decide +kernel
theorem dX6_judge_34 : decode cX6_judge 34 = .ok (.getfield 31, 3) := by decide +kernel
theorem dX6_judge_37 : decode cX6_judge 37 = .ok (.invokevirtual 193, 3) := by decide +kernel
theorem dX6_judge_40 : decode cX6_judge 40 = .ok (.iconst 0, 1) := by decide +kernel
theorem dX6_judge_41 : decode cX6_judge 41 = .ok (.istore 4, 2) := by decide +kernel
theorem dX6_judge_43 : decode cX6_judge 43 = .ok (.iload 4, 2) := by decide +kernel
theorem dX6_judge_45 : decode cX6_judge 45 = .ok (.iload_n 1, 1) := by decide +kernel
theorem dX6_judge_46 : decode cX6_judge 46 = .ok (.if_icmp .ge 59, 3) := by decide +kernel
theorem dX6_judge_49 : decode cX6_judge 49 = .ok (.lload_n 2, 1) := by decide +kernel
theorem dX6_judge_50 : decode cX6_judge 50 = .ok (.getstatic 189, 3) := by decide +kernel
theorem dX6_judge_53 : decode cX6_judge 53 = .ok (.iload_n 1, 1) := by decide +kernel
theorem dX6_judge_54 : decode cX6_judge 54 = .ok (.iconst 1, 1) := by decide +kernel
theorem dX6_judge_55 : decode cX6_judge 55 = .ok (.isub, 1) := by decide +kernel
theorem dX6_judge_56 : decode cX6_judge 56 = .ok (.iload 4, 2) := by decide +kernel
theorem dX6_judge_58 : decode cX6_judge 58 = .ok (.isub, 1) := by decide +kernel
theorem dX6_judge_59 : decode cX6_judge 59 = .ok (.laload, 1) := by decide +kernel
theorem dX6_judge_60 : decode cX6_judge 60 = .ok (.ldiv, 1) := by decide +kernel
theorem dX6_judge_61 : decode cX6_judge 61 = .ok (.ldc2_w 196, 3) := by decide +kernel
theorem dX6_judge_64 : decode cX6_judge 64 = .ok (.lrem, 1) := by decide +kernel
theorem dX6_judge_65 : decode cX6_judge 65 = .ok (.l2i, 1) := by decide +kernel
theorem dX6_judge_66 : decode cX6_judge 66 = .ok (.istore 5, 2) := by decide +kernel
theorem dX6_judge_68 : decode cX6_judge 68 = .ok (.aload_n 0, 1) := by decide +kernel
theorem dX6_judge_69 : decode cX6_judge 69 = .ok (.getfield 35, 3) := by decide +kernel
theorem dX6_judge_72 : decode cX6_judge 72 = .ok (.iload 5, 2) := by decide +kernel
theorem dX6_judge_74 : decode cX6_judge 74 = .ok (.bipush 100, 2) := by decide +kernel
theorem dX6_judge_76 : decode cX6_judge 76 = .ok (.idiv, 1) := by decide +kernel
theorem dX6_judge_77 : decode cX6_judge 77 = .ok (.iload 5, 2) := by decide +kernel
theorem dX6_judge_79 : decode cX6_judge 79 = .ok (.bipush 10, 2) := by decide +kernel
theorem dX6_judge_81 : decode cX6_judge 81 = .ok (.idiv, 1) := by decide +kernel
theorem dX6_judge_82 : decode cX6_judge 82 = .ok (.bipush 10, 2) := by decide +kernel
theorem dX6_judge_84 : decode cX6_judge 84 = .ok (.irem, 1) := by decide +kernel
theorem dX6_judge_85 : decode cX6_judge 85 = .ok (.iload 5, 2) := by decide +kernel
theorem dX6_judge_87 : decode cX6_judge 87 = .ok (.bipush 10, 2) := by decide +kernel
theorem dX6_judge_89 : decode cX6_judge 89 = .ok (.irem, 1) := by decide +kernel
theorem dX6_judge_90 : decode cX6_judge 90 = .ok (.invokevirtual 198, 3) := by decide +kernel
theorem dX6_judge_93 : decode cX6_judge 93 = .ok (.ifCond .ne 6, 3) := by decide +kernel
theorem dX6_judge_96 : decode cX6_judge 96 = .ok (.iload 4, 2) := by decide +kernel
theorem dX6_judge_98 : decode cX6_judge 98 = .ok (.ireturn, 1) := by decide +kernel
theorem dX6_judge_99 : decode cX6_judge 99 = .ok (.iinc 4 1, 3) := by decide +kernel
theorem dX6_judge_102 : decode cX6_judge 102 = .ok (.goto (-59), 3) := by decide +kernel
theorem dX6_judge_105 : decode cX6_judge 105 = .ok (.bipush (-9), 2) := by decide +kernel
theorem dX6_judge_107 : decode cX6_judge 107 = .ok (.ireturn, 1) := by decide +kernel
set_option maxRecDepth 20000 in
theorem ggX6_hear_X1_append : GoodIn wsX6_hear wsX1_append := goodIn_r _ [6, 7, 8, 9, 23, 24, 25, 26] (by decide +kernel) (by decide +kernel)
set_option maxRecDepth 20000 in
theorem gX6_hear_X1_append : GoodIn wsX6_hear (wsV RX6 202 RX1 yX1_append wsX1_append) := goodIn_app (goodIn_of _ (by decide +kernel)) ggX6_hear_X1_append
theorem dX6_hear_0 : decode cX6_hear 0 = .ok (.iload_n 1, 1) := by decide +kernel
theorem dX6_hear_1 : decode cX6_hear 1 = .ok (.ifCond .lt 18, 3) := by decide +kernel
theorem dX6_hear_4 : decode cX6_hear 4 = .ok (.iload_n 1, 1) := by decide +kernel
theorem dX6_hear_5 : decode cX6_hear 5 = .ok (.bipush 10, 2) := by decide +kernel
theorem dX6_hear_7 : decode cX6_hear 7 = .ok (.if_icmp .gt 12, 3) := by decide +kernel
theorem dX6_hear_10 : decode cX6_hear 10 = .ok (.iload_n 2, 1) := by decide +kernel
theorem dX6_hear_11 : decode cX6_hear 11 = .ok (.ifCond .lt 8, 3) := by decide +kernel
theorem dX6_hear_14 : decode cX6_hear 14 = .ok (.iload_n 2, 1) := by decide +kernel
theorem dX6_hear_15 : decode cX6_hear 15 = .ok (.iconst 1, 1) := by decide +kernel
theorem dX6_hear_16 : decode cX6_hear 16 = .ok (.if_icmp .le 6, 3) := by decide +kernel
theorem dX6_hear_19 : decode cX6_hear 19 = .ok (.bipush (-2), 2) := by decide +kernel
theorem dX6_hear_21 : decode cX6_hear 21 = .ok (.ireturn, 1) := by decide +kernel
theorem dX6_hear_22 : decode cX6_hear 22 = .ok (.aload_n 0, 1) := by decide +kernel
theorem dX6_hear_23 : decode cX6_hear 23 = .ok (.getfield 63, 3) := by decide +kernel
theorem dX6_hear_26 : decode cX6_hear 26 = .ok (.iload_n 1, 1) := by decide +kernel
theorem dX6_hear_27 : decode cX6_hear 27 = .ok (.iload_n 2, 1) := by decide +kernel
theorem dX6_hear_28 : decode cX6_hear 28 = .ok (.iconst 1, 1) := by decide +kernel
theorem dX6_hear_29 : decode cX6_hear 29 = .ok (.if_icmp .ne 7, 3) := by decide +kernel
theorem dX6_hear_32 : decode cX6_hear 32 = .ok (.iconst 1, 1) := by decide +kernel
theorem dX6_hear_33 : decode cX6_hear 33 = .ok (.goto 4, 3) := by decide +kernel
theorem dX6_hear_36 : decode cX6_hear 36 = .ok (.iconst 0, 1) := by decide +kernel
theorem dX6_hear_37 : decode cX6_hear 37 = .ok (.invokevirtual 202, 3) := by decide +kernel
theorem dX6_hear_40 : decode cX6_hear 40 = .ok (.ireturn, 1) := by decide +kernel
theorem dX6_unhear_0 : decode cX6_unhear 0 = .ok (.aload_n 0, 1) := by decide +kernel
theorem dX6_unhear_1 : decode cX6_unhear 1 = .ok (.getfield 63, 3) := by decide +kernel
theorem dX6_unhear_4 : decode cX6_unhear 4 = .ok (.getfield 204, 3) := by decide +kernel
theorem dX6_unhear_7 : decode cX6_unhear 7 = .ok (.istore_n 1, 1) := by decide +kernel
theorem dX6_unhear_8 : decode cX6_unhear 8 = .ok (.aload_n 0, 1) := by decide +kernel
theorem dX6_unhear_9 : decode cX6_unhear 9 = .ok (.getfield 63, 3) := by decide +kernel
theorem dX6_unhear_12 : decode cX6_unhear 12 = .ok (.iconst 0, 1) := by decide +kernel
theorem dX6_unhear_13 : decode cX6_unhear 13 = .ok (.putfield 204, 3) := by decide +kernel
theorem dX6_unhear_16 : decode cX6_unhear 16 = .ok (.iload_n 1, 1) := by decide +kernel
theorem dX6_unhear_17 : decode cX6_unhear 17 = .ok (.ireturn, 1) := by decide +kernel
set_option maxRecDepth 20000 in
theorem ggX6_who_X1_howMany : GoodIn wsX6_who wsX1_howMany := goodIn_r _ [6, 7, 8, 9, 5, 10, 11, 12, 13, 14, 15, 16, 17, 18, 19, 20, 21, 22, 23, 24, 25, 26, 27, 28, 29, 30, 31, 32, 33, 34, 35, 53, 54, 55, 56, 57, 58, 59, 60, 61, 62, 63] (by decide +kernel) (by decide +kernel)
set_option maxRecDepth 20000 in
theorem gX6_who_X1_howMany : GoodIn wsX6_who (wsV RX6 205 RX1 yX1_howMany wsX1_howMany) := goodIn_app (goodIn_of _ (by decide +kernel)) ggX6_who_X1_howMany
set_option maxRecDepth 20000 in
theorem ggX6_who_X1_firstOne : GoodIn wsX6_who wsX1_firstOne := goodIn_r _ [39, 7, 8, 9, 5, 10, 11, 12, 13, 14, 15, 16, 17, 18, 19, 20, 21, 22, 23, 24, 25, 26, 27, 28, 29, 30, 31, 32, 33, 34, 35, 53, 54, 55, 56, 57, 58, 59, 60, 61, 62, 63] (by decide +kernel) (by decide +kernel)
set_option maxRecDepth 20000 in
theorem gX6_who_X1_firstOne : GoodIn wsX6_who (wsV RX6 209 RX1 yX1_firstOne wsX1_firstOne) := goodIn_app (goodIn_of _ (by decide +kernel)) ggX6_who_X1_firstOne
theorem dX6_who_0 : decode cX6_who 0 = .ok (.iload_n 1, 1) := by decide +kernel
theorem dX6_who_1 : decode cX6_who 1 = .ok (.ifCond .ne 11, 3) := by decide +kernel
theorem dX6_who_4 : decode cX6_who 4 = .ok (.aload_n 0, 1) := by decide +kernel
theorem dX6_who_5 : decode cX6_who 5 = .ok (.getfield 63, 3) := by decide +kernel
theorem dX6_who_8 : decode cX6_who 8 = .ok (.invokevirtual 205, 3) := by decide +kernel
theorem dX6_who_11 : decode cX6_who 11 = .ok (.ireturn, 1) := by decide +kernel
theorem dX6_who_12 : decode cX6_who 12 = .ok (.iload_n 1, 1) := by decide +kernel
theorem dX6_who_13 : decode cX6_who 13 = .ok (.iconst 1, 1) := by decide +kernel
theorem dX6_who_14 : decode cX6_who 14 = .ok (.if_icmp .ne 13, 3) := by decide +kernel
theorem dX6_who_17 : decode cX6_who 17 = .ok (.aload_n 0, 1) := by decide +kernel
theorem dX6_who_18 : decode cX6_who 18 = .ok (.getfield 63, 3) := by decide +kernel
theorem dX6_who_21 : decode cX6_who 21 = .ok (.invokevirtual 209, 3) := by decide +kernel
theorem dX6_who_24 : decode cX6_who 24 = .ok (.goto 5, 3) := by decide +kernel
theorem dX6_who_27 : decode cX6_who 27 = .ok (.bipush (-2), 2) := by decide +kernel
theorem dX6_who_29 : decode cX6_who 29 = .ok (.ireturn, 1) := by decide +kernel
set_option maxRecDepth 20000 in
theorem ggX6_share_X2_hasTraveller : GoodIn wsX6_share wsX2_hasTraveller := goodIn_r _ [8, 9, 102, 103, 104, 105, 106, 107, 108] (by decide +kernel) (by decide +kernel)
set_option maxRecDepth 20000 in
theorem gX6_share_X2_hasTraveller : GoodIn wsX6_share (wsV RX6 115 RX2 yX2_hasTraveller wsX2_hasTraveller) := goodIn_app (goodIn_of _ (by decide +kernel)) ggX6_share_X2_hasTraveller
set_option maxRecDepth 20000 in
theorem ggX6_share_X6_reachIn : GoodIn wsX6_share wsX6_reachIn := goodIn_r _ [14, 15, 16, 17, 18, 19, 20, 21, 22, 23, 24, 25, 26, 27, 28, 29, 30, 31, 32, 33, 34, 35, 36, 37, 38, 7, 39, 40, 41, 42, 43, 44, 45, 46, 47, 48, 49, 50, 51, 52, 53, 54, 55, 56, 57, 58, 59, 60, 61, 62, 63, 64, 65, 66, 67, 68, 69, 70, 71, 72, 73, 74, 89, 90, 91, 92, 93, 94, 95, 96, 97, 98, 99, 100, 101, 109, 110, 111, 112, 113, 114, 115, 116, 117, 118, 119, 120, 121, 122, 123, 124, 125, 102, 103, 104, 105, 106, 107, 108] (by decide +kernel) (by decide +kernel)
set_option maxRecDepth 20000 in
theorem gX6_share_X6_reachIn : GoodIn wsX6_share (wsV RX6 166 RX6 yX6_reachIn wsX6_reachIn) := goodIn_app (goodIn_of _ (by decide +kernel)) ggX6_share_X6_reachIn
set_option maxRecDepth 20000 in
theorem ggX6_share_X6_howManyReach : GoodIn wsX6_share wsX6_howManyReach := goodIn_r _ [78, 1, 79, 2, 10, 11, 12, 13, 14, 15, 16, 17, 18, 19, 20, 21, 22, 23, 24, 25, 26, 27, 28, 29, 30, 31, 32, 33, 34, 35, 36, 37, 38, 7, 39, 40, 41, 42, 43, 44, 45, 46, 47, 48, 49, 50, 51, 52, 53, 54, 55, 56, 57, 58, 59, 60, 61, 62, 63, 64, 65, 66, 67, 68, 69, 70, 71, 72, 73, 74, 89, 90, 91, 92, 93, 94, 95, 96, 97, 98, 99, 100, 101, 102, 103, 104, 105, 106, 107, 108, 109, 110, 111, 112, 113, 114, 115, 116, 117, 118, 119, 120, 121, 122, 123, 124, 125] (by decide +kernel) (by decide +kernel)
set_option maxRecDepth 20000 in
theorem gX6_share_X6_howManyReach : GoodIn wsX6_share (wsV RX6 212 RX6 yX6_howManyReach wsX6_howManyReach) := goodIn_app (goodIn_of _ (by decide +kernel)) ggX6_share_X6_howManyReach
set_option maxRecDepth 20000 in
theorem ggX6_share_X6_sharedPart : GoodIn wsX6_share wsX6_sharedPart := goodIn_r _ [82] (by decide +kernel) (by decide +kernel)
set_option maxRecDepth 20000 in
theorem gX6_share_X6_sharedPart : GoodIn wsX6_share (va_wsS RX6 215 yX6_sharedPart wsX6_sharedPart) := goodIn_app (goodIn_of _ (by decide +kernel)) ggX6_share_X6_sharedPart
set_option maxRecDepth 20000 in
theorem ggX6_share_X6_fraction : GoodIn wsX6_share wsX6_fraction := goodIn_r _ [85, 86, 87, 13, 88] (by decide +kernel) (by decide +kernel)
set_option maxRecDepth 20000 in
theorem gX6_share_X6_fraction : GoodIn wsX6_share (va_wsS RX6 218 yX6_fraction wsX6_fraction) := goodIn_app (goodIn_of _ (by decide +kernel)) ggX6_share_X6_fraction
theorem dX6_share_0 : decode cX6_share 0 = .ok (.aload_n 0, 1) := by decide +kernel
theorem dX6_share_1 : decode cX6_share 1 = .ok (.getfield 23, 3) := by decide +kernel
theorem dX6_share_4 : decode cX6_share 4 = .ok (.iload_n 1, 1) := by decide +kernel
theorem dX6_share_5 : decode cX6_share 5 = .ok (.invokevirtual 115, 3) := by decide +kernel
theorem dX6_share_8 : decode cX6_share 8 = .ok (.ifCond .ne 5, 3) := by decide +kernel
theorem dX6_share_11 : decode cX6_share 11 = .ok (.iconst (-1), 1) := by decide +kernel
theorem dX6_share_12 : decode cX6_share 12 = .ok (.ireturn, 1) := by decide +kernel
theorem dX6_share_13 : decode cX6_share 13 = .ok (.aload_n 0, 1) := by decide +kernel
theorem dX6_share_14 : decode cX6_share 14 = .ok (.aload_n 0, 1) := by decide +kernel
theorem dX6_share_15 : decode cX6_share 15 = .ok (.getfield 31, 3) := by decide +kernel
theorem dX6_share_18 : decode cX6_share 18 = .ok (.iload_n 1, 1) := by decide +kernel
theorem dX6_share_19 : decode cX6_share 19 = .ok (.invokevirtual 166, 3) := by decide +kernel
theorem dX6_share_22 : decode cX6_share 22 = .ok (.istore_n 3, 1) := by decide +kernel
theorem dX6_share_23 : decode cX6_share 23 = .ok (.iconst 0, 1) := by decide +kernel
theorem dX6_share_24 : decode cX6_share 24 = .ok (.istore 4, 2) := by decide +kernel
theorem dX6_share_26 : decode cX6_share 26 = .ok (.iconst 0, 1) := by decide +kernel
theorem dX6_share_27 : decode cX6_share 27 = .ok (.istore 5, 2) := by decide +kernel
theorem dX6_share_29 : decode cX6_share 29 = .ok (.iload 5, 2) := by decide +kernel
theorem dX6_share_31 : decode cX6_share 31 = .ok (.aload_n 0, 1) := by decide +kernel
theorem dX6_share_32 : decode cX6_share 32 = .ok (.getfield 23, 3) := by decide +kernel
theorem dX6_share_35 : decode cX6_share 35 = .ok (.getfield 90, 3) := by decide +kernel
theorem dX6_share_38 : decode cX6_share 38 = .ok (.if_icmp .gt 33, 3) := by decide +kernel
theorem dX6_share_41 : decode cX6_share 41 = .ok (.iload_n 3, 1) := by decide +kernel
theorem dX6_share_42 : decode cX6_share 42 = .ok (.iload 5, 2) := by decide +kernel
theorem dX6_share_44 : decode cX6_share 44 = .ok (.ishr, 1) := by decide +kernel
theorem dX6_share_45 : decode cX6_share 45 = .ok (.iconst 1, 1) := by decide +kernel
theorem dX6_share_46 : decode cX6_share 46 = .ok (.iand, 1) := by decide +kernel
theorem dX6_share_47 : decode cX6_share 47 = .ok (.iconst 1, 1) := by decide +kernel
theorem dX6_share_48 : decode cX6_share 48 = .ok (.if_icmp .ne 17, 3) := by decide +kernel
theorem dX6_share_51 : decode cX6_share 51 = .ok (.iload 4, 2) := by decide +kernel
theorem dX6_share_53 : decode cX6_share 53 = .ok (.aload_n 0, 1) := by decide +kernel
theorem dX6_share_54 : decode cX6_share 54 = .ok (.iload 5, 2) := by decide +kernel
theorem dX6_share_56 : decode cX6_share 56 = .ok (.invokevirtual 212, 3) := by decide +kernel
theorem dX6_share_59 : decode cX6_share 59 = .ok (.invokestatic 215, 3) := by decide +kernel
theorem dX6_share_62 : decode cX6_share 62 = .ok (.iadd, 1) := by decide +kernel
theorem dX6_share_63 : decode cX6_share 63 = .ok (.istore 4, 2) := by decide +kernel
theorem dX6_share_65 : decode cX6_share 65 = .ok (.iinc 5 1, 3) := by decide +kernel
theorem dX6_share_68 : decode cX6_share 68 = .ok (.goto (-39), 3) := by decide +kernel
theorem dX6_share_71 : decode cX6_share 71 = .ok (.iload 4, 2) := by decide +kernel
theorem dX6_share_73 : decode cX6_share 73 = .ok (.bipush 60, 2) := by decide +kernel
theorem dX6_share_75 : decode cX6_share 75 = .ok (.iload_n 2, 1) := by decide +kernel
theorem dX6_share_76 : decode cX6_share 76 = .ok (.invokestatic 218, 3) := by decide +kernel
theorem dX6_share_79 : decode cX6_share 79 = .ok (.ireturn, 1) := by decide +kernel
set_option maxRecDepth 20000 in
theorem ggX6_rests_X2_hasTraveller : GoodIn wsX6_rests wsX2_hasTraveller := goodIn_r _ [6, 7, 158, 159, 160, 161, 162, 163, 164] (by decide +kernel) (by decide +kernel)
set_option maxRecDepth 20000 in
theorem gX6_rests_X2_hasTraveller : GoodIn wsX6_rests (wsV RX6 115 RX2 yX2_hasTraveller wsX2_hasTraveller) := goodIn_app (goodIn_of _ (by decide +kernel)) ggX6_rests_X2_hasTraveller
set_option maxRecDepth 20000 in
theorem ggX6_rests_X6_tryPair : GoodIn wsX6_rests wsX6_tryPair := goodIn_r _ [12, 13, 14, 15, 16, 17, 18, 19, 20, 21, 22, 23, 24, 25, 26, 27, 28, 29, 30, 31, 32, 33, 34, 35, 36, 37, 3, 4, 5, 6, 7, 38, 39, 40, 41, 42, 43, 44, 45, 46, 47, 48, 49, 50, 51, 52, 53, 54, 55, 56, 57, 58, 59, 60, 61, 62, 63, 64, 65, 66, 67, 68, 69, 70, 71, 72, 73, 11, 74, 75, 76, 77, 78, 79, 80, 81, 82, 83, 84, 85, 86, 87, 88, 89, 90, 91, 92, 93, 94, 95, 96, 97, 98, 99, 100, 101, 102, 103, 104, 105, 106, 107, 108, 109, 110, 111, 112, 113, 114, 115, 116, 117, 118, 119, 120, 121, 122, 123, 124, 125, 126, 127, 128, 129, 130, 131, 132, 145, 146, 147, 148, 149, 150, 151, 152, 153, 154, 155, 156, 157, 165, 166, 167, 168, 169, 170, 171, 158, 159, 160, 161, 162, 163, 164, 172, 173, 174, 175, 176, 177, 178, 179, 180, 181] (by decide +kernel) (by decide +kernel)
set_option maxRecDepth 20000 in
theorem gX6_rests_X6_tryPair : GoodIn wsX6_rests (wsV RX6 222 RX6 yX6_tryPair wsX6_tryPair) := goodIn_app (goodIn_of _ (by decide +kernel)) ggX6_rests_X6_tryPair
set_option maxRecDepth 20000 in
theorem ggX6_rests_X6_pairsAtRest : GoodIn wsX6_rests wsX6_pairsAtRest := goodIn_r _ [136, 137, 138, 139, 11, 140, 15, 16, 145, 146, 147, 148, 149, 150, 151, 152, 153, 154, 155, 156, 157] (by decide +kernel) (by decide +kernel)
set_option maxRecDepth 20000 in
theorem gX6_rests_X6_pairsAtRest : GoodIn wsX6_rests (wsV RX6 226 RX6 yX6_pairsAtRest wsX6_pairsAtRest) := goodIn_app (goodIn_of _ (by decide +kernel)) ggX6_rests_X6_pairsAtRest
set_option maxRecDepth 20000 in
theorem ggX6_rests_X6_firstPairAtRest : GoodIn wsX6_rests wsX6_firstPairAtRest := goodIn_r _ [144, 137, 138, 139, 11, 140, 15, 16, 145, 146, 147, 148, 149, 150, 151, 152, 153, 154, 155, 156, 157] (by decide +kernel) (by decide +kernel)
set_option maxRecDepth 20000 in
theorem gX6_rests_X6_firstPairAtRest : GoodIn wsX6_rests (wsV RX6 229 RX6 yX6_firstPairAtRest wsX6_firstPairAtRest) := goodIn_app (goodIn_of _ (by decide +kernel)) ggX6_rests_X6_firstPairAtRest
theorem dX6_rests_0 : decode cX6_rests 0 = .ok (.aload_n 0, 1) := by decide +kernel
theorem dX6_rests_1 : decode cX6_rests 1 = .ok (.getfield 23, 3) := by decide +kernel
theorem dX6_rests_4 : decode cX6_rests 4 = .ok (.iload_n 1, 1) := by decide +kernel
theorem dX6_rests_5 : decode cX6_rests 5 = .ok (.invokevirtual 115, 3) := by decide +kernel
theorem dX6_rests_8 : decode cX6_rests 8 = .ok (.ifCond .eq 14, 3) := by decide +kernel
theorem dX6_rests_11 : decode cX6_rests 11 = .ok (.aload_n 0, 1) := by decide +kernel
theorem dX6_rests_12 : decode cX6_rests 12 = .ok (.getfield 23, 3) := by decide +kernel
theorem dX6_rests_15 : decode cX6_rests 15 = .ok (.iload_n 2, 1) := by decide +kernel
theorem dX6_rests_16 : decode cX6_rests 16 = .ok (.invokevirtual 115, 3) := by decide +kernel
theorem dX6_rests_19 : decode cX6_rests 19 = .ok (.ifCond .ne 5, 3) := by decide +kernel
theorem dX6_rests_22 : decode cX6_rests 22 = .ok (.iconst (-1), 1) := by decide +kernel
theorem dX6_rests_23 : decode cX6_rests 23 = .ok (.ireturn, 1) := by decide +kernel
theorem dX6_rests_24 : decode cX6_rests 24 = .ok (.iload_n 1, 1) := by decide +kernel
theorem dX6_rests_25 : decode cX6_rests 25 = .ok (.iload_n 2, 1) := by decide +kernel
theorem dX6_rests_26 : decode cX6_rests 26 = .ok (.if_icmp .eq 12, 3) := by decide +kernel
theorem dX6_rests_29 : decode cX6_rests 29 = .ok (.iload_n 3, 1) := by decide +kernel
theorem dX6_rests_30 : decode cX6_rests 30 = .ok (.ifCond .lt 8, 3) := by decide +kernel
theorem dX6_rests_33 : decode cX6_rests 33 = .ok (.iload_n 3, 1) := by decide +kernel
theorem dX6_rests_34 : decode cX6_rests 34 = .ok (.iconst 1, 1) := by decide +kernel
theorem dX6_rests_35 : decode cX6_rests 35 = .ok (.if_icmp .le 6, 3) := by decide +kernel
theorem dX6_rests_38 : decode cX6_rests 38 = .ok (.bipush (-2), 2) := by decide +kernel
theorem dX6_rests_40 : decode cX6_rests 40 = .ok (.ireturn, 1) := by decide +kernel
theorem dX6_rests_41 : decode cX6_rests 41 = .ok (.iconst 0, 1) := by decide +kernel
theorem dX6_rests_42 : decode cX6_rests 42 = .ok (.istore 4, 2) := by decide +kernel
theorem dX6_rests_44 : decode cX6_rests 44 = .ok (.iload 4, 2) := by decide +kernel
theorem dX6_rests_46 : decode cX6_rests 46 = .ok (.bipush 9, 2) := by decide +kernel
theorem dX6_rests_48 : decode cX6_rests 48 = .ok (.if_icmp .ge 17, 3) := by decide +kernel
theorem dX6_rests_51 : decode cX6_rests 51 = .ok (.aload_n 0, 1) := by decide +kernel
theorem dX6_rests_52 : decode cX6_rests 52 = .ok (.iload_n 1, 1) := by decide +kernel
theorem dX6_rests_53 : decode cX6_rests 53 = .ok (.iload_n 2, 1) := by decide +kernel
theorem dX6_rests_54 : decode cX6_rests 54 = .ok (.iload 4, 2) := by decide +kernel
theorem dX6_rests_56 : decode cX6_rests 56 = .ok (.invokevirtual 222, 3) := by decide +kernel
theorem dX6_rests_59 : decode cX6_rests 59 = .ok (.iinc 4 1, 3) := by decide +kernel
theorem dX6_rests_62 : decode cX6_rests 62 = .ok (.goto (-18), 3) := by decide +kernel
theorem dX6_rests_65 : decode cX6_rests 65 = .ok (.iload_n 3, 1) := by decide +kernel
theorem dX6_rests_66 : decode cX6_rests 66 = .ok (.ifCond .ne 10, 3) := by decide +kernel
theorem dX6_rests_69 : decode cX6_rests 69 = .ok (.aload_n 0, 1) := by decide +kernel
theorem dX6_rests_70 : decode cX6_rests 70 = .ok (.invokevirtual 226, 3) := by decide +kernel
theorem dX6_rests_73 : decode cX6_rests 73 = .ok (.goto 7, 3) := by decide +kernel
theorem dX6_rests_76 : decode cX6_rests 76 = .ok (.aload_n 0, 1) := by decide +kernel
theorem dX6_rests_77 : decode cX6_rests 77 = .ok (.invokevirtual 229, 3) := by decide +kernel
theorem dX6_rests_80 : decode cX6_rests 80 = .ok (.ireturn, 1) := by decide +kernel
set_option maxRecDepth 20000 in
theorem ggX6_icy_X2_hasTraveller : GoodIn wsX6_icy wsX2_hasTraveller := goodIn_r _ [8, 9, 119, 120, 121, 122, 123, 124, 125] (by decide +kernel) (by decide +kernel)
set_option maxRecDepth 20000 in
theorem gX6_icy_X2_hasTraveller : GoodIn wsX6_icy (wsV RX6 115 RX2 yX2_hasTraveller wsX2_hasTraveller) := goodIn_app (goodIn_of _ (by decide +kernel)) ggX6_icy_X2_hasTraveller
set_option maxRecDepth 20000 in
theorem ggX6_icy_X2_hasPlace : GoodIn wsX6_icy wsX2_hasPlace := goodIn_r _ [13, 14, 119, 120, 121, 122, 123, 124, 125] (by decide +kernel) (by decide +kernel)
set_option maxRecDepth 20000 in
theorem gX6_icy_X2_hasPlace : GoodIn wsX6_icy (wsV RX6 170 RX2 yX2_hasPlace wsX2_hasPlace) := goodIn_app (goodIn_of _ (by decide +kernel)) ggX6_icy_X2_hasPlace
set_option maxRecDepth 20000 in
theorem ggX6_icy_X2_canBeIced : GoodIn wsX6_icy wsX2_canBeIced := goodIn_r _ [18, 14, 19, 119, 120, 121, 122, 123, 124, 125] (by decide +kernel) (by decide +kernel)
set_option maxRecDepth 20000 in
theorem gX6_icy_X2_canBeIced : GoodIn wsX6_icy (wsV RX6 232 RX2 yX2_canBeIced wsX2_canBeIced) := goodIn_app (goodIn_of _ (by decide +kernel)) ggX6_icy_X2_canBeIced
set_option maxRecDepth 20000 in
theorem ggX6_icy_J6_bitCount_0f7a4 : GoodIn wsX6_icy wsJ6_bitCount_0f7a4 := goodIn_r _ [23, 24, 25, 26] (by decide +kernel) (by decide +kernel)
set_option maxRecDepth 20000 in
theorem gX6_icy_J6_bitCount_0f7a4 : GoodIn wsX6_icy (va_wsS RX6 184 yJ6_bitCount_0f7a4 wsJ6_bitCount_0f7a4) := goodIn_app (goodIn_of _ (by decide +kernel)) ggX6_icy_J6_bitCount_0f7a4
set_option maxRecDepth 20000 in
theorem ggX6_icy_X6_power : GoodIn wsX6_icy wsX6_power := goodIn_r _ [30] (by decide +kernel) (by decide +kernel)
set_option maxRecDepth 20000 in
theorem gX6_icy_X6_power : GoodIn wsX6_icy (va_wsS RX6 235 yX6_power wsX6_power) := goodIn_app (goodIn_of _ (by decide +kernel)) ggX6_icy_X6_power
set_option maxRecDepth 20000 in
theorem ggX6_icy_X6_comesWith : GoodIn wsX6_icy wsX6_comesWith := goodIn_r _ [34, 35, 2, 36, 37, 38, 39, 40, 41, 42, 43, 44, 45, 46, 47, 48, 49, 50, 51, 52, 53, 54, 55, 56, 57, 7, 58, 19, 59, 60, 61, 62, 63, 64, 65, 66, 67, 68, 69, 70, 71, 72, 73, 74, 75, 76, 77, 78, 79, 80, 81, 82, 83, 84, 85, 86, 87, 88, 89, 90, 91, 92, 99, 100, 101, 102, 103, 104, 105, 106, 107, 108, 109, 110, 111, 126, 127, 128, 129, 130, 131, 132, 133, 134, 135, 119, 120, 121, 122, 123, 124, 125, 112, 113, 114, 115, 116, 117, 118] (by decide +kernel) (by decide +kernel)
set_option maxRecDepth 20000 in
theorem gX6_icy_X6_comesWith : GoodIn wsX6_icy (wsV RX6 180 RX6 yX6_comesWith wsX6_comesWith) := goodIn_app (goodIn_of _ (by decide +kernel)) ggX6_icy_X6_comesWith
set_option maxRecDepth 20000 in
theorem ggX6_icy_X6_fraction : GoodIn wsX6_icy wsX6_fraction := goodIn_r _ [95, 96, 97, 29, 98] (by decide +kernel) (by decide +kernel)
set_option maxRecDepth 20000 in
theorem gX6_icy_X6_fraction : GoodIn wsX6_icy (va_wsS RX6 218 yX6_fraction wsX6_fraction) := goodIn_app (goodIn_of _ (by decide +kernel)) ggX6_icy_X6_fraction
theorem dX6_icy_0 : decode cX6_icy 0 = .ok (.aload_n 0, 1) := by decide +kernel
theorem dX6_icy_1 : decode cX6_icy 1 = .ok (.getfield 23, 3) := by decide +kernel
theorem dX6_icy_4 : decode cX6_icy 4 = .ok (.iload_n 1, 1) := by decide +kernel
theorem dX6_icy_5 : decode cX6_icy 5 = .ok (.invokevirtual 115, 3) := by decide +kernel
theorem dX6_icy_8 : decode cX6_icy 8 = .ok (.ifCond .eq 14, 3) := by decide +kernel
theorem dX6_icy_11 : decode cX6_icy 11 = .ok (.aload_n 0, 1) := by decide +kernel
theorem dX6_icy_12 : decode cX6_icy 12 = .ok (.getfield 23, 3) := by decide +kernel
theorem dX6_icy_15 : decode cX6_icy 15 = .ok (.iload_n 2, 1) := by decide +kernel
theorem dX6_icy_16 : decode cX6_icy 16 = .ok (.invokevirtual 170, 3) := by decide +kernel
theorem dX6_icy_19 : decode cX6_icy 19 = .ok (.ifCond .ne 5, 3) := by decide +kernel
theorem dX6_icy_22 : decode cX6_icy 22 = .ok (.iconst (-1), 1) := by decide +kernel
theorem dX6_icy_23 : decode cX6_icy 23 = .ok (.ireturn, 1) := by decide +kernel
theorem dX6_icy_24 : decode cX6_icy 24 = .ok (.iload_n 3, 1) := by decide +kernel
theorem dX6_icy_25 : decode cX6_icy 25 = .ok (.ifCond .lt 9, 3) := by decide +kernel
theorem dX6_icy_28 : decode cX6_icy 28 = .ok (.iload_n 3, 1) := by decide +kernel
theorem dX6_icy_29 : decode cX6_icy 29 = .ok (.bipush 10, 2) := by decide +kernel
theorem dX6_icy_31 : decode cX6_icy 31 = .ok (.if_icmp .le 6, 3) := by decide +kernel
theorem dX6_icy_34 : decode cX6_icy 34 = .ok (.bipush (-2), 2) := by decide +kernel
theorem dX6_icy_36 : decode cX6_icy 36 = .ok (.ireturn, 1) := by decide +kernel
theorem dX6_icy_37 : decode cX6_icy 37 = .ok (.aload_n 0, 1) := by decide +kernel
theorem dX6_icy_38 : decode cX6_icy 38 = .ok (.getfield 23, 3) := by decide +kernel
theorem dX6_icy_41 : decode cX6_icy 41 = .ok (.invokevirtual 232, 3) := by decide +kernel
theorem dX6_icy_44 : decode cX6_icy 44 = .ok (.istore 5, 2) := by decide +kernel
theorem dX6_icy_46 : decode cX6_icy 46 = .ok (.iload 5, 2) := by decide +kernel
theorem dX6_icy_48 : decode cX6_icy 48 = .ok (.invokestatic 184, 3) := by decide +kernel
theorem dX6_icy_51 : decode cX6_icy 51 = .ok (.istore 6, 2) := by decide +kernel
theorem dX6_icy_53 : decode cX6_icy 53 = .ok (.iconst 0, 1) := by decide +kernel
theorem dX6_icy_54 : decode cX6_icy 54 = .ok (.istore 7, 2) := by decide +kernel
theorem dX6_icy_56 : decode cX6_icy 56 = .ok (.iconst 0, 1) := by decide +kernel
theorem dX6_icy_57 : decode cX6_icy 57 = .ok (.istore 8, 2) := by decide +kernel
theorem dX6_icy_59 : decode cX6_icy 59 = .ok (.iload 8, 2) := by decide +kernel
theorem dX6_icy_61 : decode cX6_icy 61 = .ok (.sipush 256, 3) := by decide +kernel
theorem dX6_icy_64 : decode cX6_icy 64 = .ok (.if_icmp .ge 77, 3) := by decide +kernel
theorem dX6_icy_67 : decode cX6_icy 67 = .ok (.iload 8, 2) := by decide +kernel
theorem dX6_icy_69 : decode cX6_icy 69 = .ok (.iload 5, 2) := by decide +kernel
theorem dX6_icy_71 : decode cX6_icy 71 = .ok (.iconst (-1), 1) := by decide +kernel
theorem dX6_icy_72 : decode cX6_icy 72 = .ok (.ixor, 1) := by decide +kernel
theorem dX6_icy_73 : decode cX6_icy 73 = .ok (.iand, 1) := by decide +kernel
theorem dX6_icy_74 : decode cX6_icy 74 = .ok (.ifCond .ne 61, 3) := by decide +kernel
theorem dX6_icy_77 : decode cX6_icy 77 = .ok (.iload 8, 2) := by decide +kernel
theorem dX6_icy_79 : decode cX6_icy 79 = .ok (.invokestatic 184, 3) := by decide +kernel
theorem dX6_icy_82 : decode cX6_icy 82 = .ok (.istore 9, 2) := by decide +kernel
theorem dX6_icy_84 : decode cX6_icy 84 = .ok (.iload_n 3, 1) := by decide +kernel
theorem dX6_icy_85 : decode cX6_icy 85 = .ok (.iload 9, 2) := by decide +kernel
theorem dX6_icy_87 : decode cX6_icy 87 = .ok (.invokestatic 235, 3) := by decide +kernel
theorem dX6_icy_90 : decode cX6_icy 90 = .ok (.bipush 10, 2) := by decide +kernel
theorem dX6_icy_92 : decode cX6_icy 92 = .ok (.iload_n 3, 1) := by decide +kernel
theorem dX6_icy_93 : decode cX6_icy 93 = .ok (.isub, 1) := by decide +kernel
theorem dX6_icy_94 : decode cX6_icy 94 = .ok (.iload 6, 2) := by decide +kernel
theorem dX6_icy_96 : decode cX6_icy 96 = .ok (.iload 9, 2) := by decide +kernel
theorem dX6_icy_98 : decode cX6_icy 98 = .ok (.isub, 1) := by decide +kernel
theorem dX6_icy_99 : decode cX6_icy 99 = .ok (.invokestatic 235, 3) := by decide +kernel
theorem dX6_icy_102 : decode cX6_icy 102 = .ok (.imul, 1) := by decide +kernel
theorem dX6_icy_103 : decode cX6_icy 103 = .ok (.istore 10, 2) := by decide +kernel
theorem dX6_icy_105 : decode cX6_icy 105 = .ok (.iload 10, 2) := by decide +kernel
theorem dX6_icy_107 : decode cX6_icy 107 = .ok (.ifCond .le 28, 3) := by decide +kernel
theorem dX6_icy_110 : decode cX6_icy 110 = .ok (.aload_n 0, 1) := by decide +kernel
theorem dX6_icy_111 : decode cX6_icy 111 = .ok (.iload_n 1, 1) := by decide +kernel
theorem dX6_icy_112 : decode cX6_icy 112 = .ok (.iload_n 2, 1) := by decide +kernel
theorem dX6_icy_113 : decode cX6_icy 113 = .ok (.aload_n 0, 1) := by decide +kernel
theorem dX6_icy_114 : decode cX6_icy 114 = .ok (.getfield 31, 3) := by decide +kernel
theorem dX6_icy_117 : decode cX6_icy 117 = .ok (.getfield 109, 3) := by decide +kernel
theorem dX6_icy_120 : decode cX6_icy 120 = .ok (.iload 8, 2) := by decide +kernel
theorem dX6_icy_122 : decode cX6_icy 122 = .ok (.invokevirtual 180, 3) := by decide +kernel
theorem dX6_icy_125 : decode cX6_icy 125 = .ok (.ifCond .eq 10, 3) := by decide +kernel
theorem dX6_icy_128 : decode cX6_icy 128 = .ok (.iload 7, 2) := by decide +kernel
theorem dX6_icy_130 : decode cX6_icy 130 = .ok (.iload 10, 2) := by decide +kernel
theorem dX6_icy_132 : decode cX6_icy 132 = .ok (.iadd, 1) := by decide +kernel
theorem dX6_icy_133 : decode cX6_icy 133 = .ok (.istore 7, 2) := by decide +kernel
theorem dX6_icy_135 : decode cX6_icy 135 = .ok (.iinc 8 1, 3) := by decide +kernel
theorem dX6_icy_138 : decode cX6_icy 138 = .ok (.goto (-79), 3) := by decide +kernel
theorem dX6_icy_141 : decode cX6_icy 141 = .ok (.iload 7, 2) := by decide +kernel
theorem dX6_icy_143 : decode cX6_icy 143 = .ok (.bipush 10, 2) := by decide +kernel
theorem dX6_icy_145 : decode cX6_icy 145 = .ok (.iload 6, 2) := by decide +kernel
theorem dX6_icy_147 : decode cX6_icy 147 = .ok (.invokestatic 235, 3) := by decide +kernel
theorem dX6_icy_150 : decode cX6_icy 150 = .ok (.iload 4, 2) := by decide +kernel
theorem dX6_icy_152 : decode cX6_icy 152 = .ok (.invokestatic 218, 3) := by decide +kernel
theorem dX6_icy_155 : decode cX6_icy 155 = .ok (.ireturn, 1) := by decide +kernel
theorem dX6_seed_0 : decode cX6_seed 0 = .ok (.aload_n 0, 1) := by decide +kernel
theorem dX6_seed_1 : decode cX6_seed 1 = .ok (.getfield 239, 3) := by decide +kernel
theorem dX6_seed_4 : decode cX6_seed 4 = .ok (.lstore_n 3, 1) := by decide +kernel
theorem dX6_seed_5 : decode cX6_seed 5 = .ok (.aload_n 0, 1) := by decide +kernel
theorem dX6_seed_6 : decode cX6_seed 6 = .ok (.lload_n 1, 1) := by decide +kernel
theorem dX6_seed_7 : decode cX6_seed 7 = .ok (.putfield 239, 3) := by decide +kernel
theorem dX6_seed_10 : decode cX6_seed 10 = .ok (.lload_n 3, 1) := by decide +kernel
theorem dX6_seed_11 : decode cX6_seed 11 = .ok (.lreturn, 1) := by decide +kernel
set_option maxRecDepth 20000 in
theorem ggX6_summers_X4_takeFrom : GoodIn wsX6_summers wsX4_takeFrom := goodIn_r _ [11, 12, 13, 14, 15, 16, 17, 126, 127, 128, 129, 130, 131, 132] (by decide +kernel) (by decide +kernel)
set_option maxRecDepth 20000 in
theorem gX6_summers_X4_takeFrom : GoodIn wsX6_summers (wsV RX6 193 RX4 yX4_takeFrom wsX4_takeFrom) := goodIn_app (goodIn_of _ (by decide +kernel)) ggX6_summers_X4_takeFrom
set_option maxRecDepth 20000 in
theorem ggX6_summers_X4_doDrawn : GoodIn wsX6_summers wsX4_doDrawn := goodIn_r _ [21, 22, 23, 24, 10, 25, 26, 27, 28, 29, 30, 13, 31, 32, 33, 34, 35, 36, 37, 38, 39, 40, 41, 42, 43, 44, 45, 12, 46, 47, 48, 49, 50, 51, 52, 53, 54, 15, 16, 14, 55, 56, 57, 58, 59, 60, 61, 62, 63, 64, 65, 66, 67, 68, 69, 17, 70, 71, 72, 73, 74, 75, 76, 77, 78, 79, 80, 81, 82, 83, 84, 85, 86, 87, 88, 89, 90, 91, 92, 93, 94, 95, 96, 97, 98, 99, 100, 101, 102, 103, 104, 105, 106, 107, 126, 127, 128, 129, 130, 131, 132, 133, 134, 135, 136, 137, 138, 139] (by decide +kernel) (by decide +kernel)
set_option maxRecDepth 20000 in
theorem gX6_summers_X4_doDrawn : GoodIn wsX6_summers (wsV RX6 249 RX4 yX4_doDrawn wsX4_doDrawn) := goodIn_app (goodIn_of _ (by decide +kernel)) ggX6_summers_X4_doDrawn
set_option maxRecDepth 20000 in
theorem ggX6_summers_X4_placesTogether : GoodIn wsX6_summers wsX4_placesTogether := goodIn_r _ [111, 30, 112, 12, 126, 127, 128, 129, 130, 131, 132, 133, 134, 135, 136, 137, 138, 139] (by decide +kernel) (by decide +kernel)
set_option maxRecDepth 20000 in
theorem gX6_summers_X4_placesTogether : GoodIn wsX6_summers (wsV RX6 252 RX4 yX4_placesTogether wsX4_placesTogether) := goodIn_app (goodIn_of _ (by decide +kernel)) ggX6_summers_X4_placesTogether
theorem dX6_summers_0 : decode cX6_summers 0 = .ok (.iload_n 1, 1) := by decide +kernel
theorem dX6_summers_1 : decode cX6_summers 1 = .ok (.iconst 1, 1) := by decide +kernel
theorem dX6_summers_2 : decode cX6_summers 2 = .ok (.if_icmp .lt 9, 3) := by decide +kernel
theorem dX6_summers_5 : decode cX6_summers 5 = .ok (.iload_n 1, 1) := by decide +kernel
theorem dX6_summers_6 : decode cX6_summers 6 = .ok (.bipush 30, 2) := by decide +kernel
theorem dX6_summers_8 : decode cX6_summers 8 = .ok (.if_icmp .le 6, 3) := by decide +kernel
theorem dX6_summers_11 : decode cX6_summers 11 = .ok (.bipush (-2), 2) := by decide +kernel
theorem dX6_summers_13 : decode cX6_summers 13 = .ok (.ireturn, 1) := by decide +kernel
theorem dX6_summers_14 : decode cX6_summers 14 = .ok (.aload_n 0, 1) := by decide +kernel
theorem dX6_summers_15 : decode cX6_summers 15 = .ok (.getfield 35, 3) := by decide +kernel
theorem dX6_summers_18 : decode cX6_summers 18 = .ok (.aload_n 0, 1) := by decide +kernel
theorem dX6_summers_19 : decode cX6_summers 19 = .ok (.getfield 31, 3) := by decide +kernel
theorem dX6_summers_22 : decode cX6_summers 22 = .ok (.invokevirtual 193, 3) := by decide +kernel
theorem dX6_summers_25 : decode cX6_summers 25 = .ok (.iconst 0, 1) := by decide +kernel
theorem dX6_summers_26 : decode cX6_summers 26 = .ok (.istore_n 2, 1) := by decide +kernel
theorem dX6_summers_27 : decode cX6_summers 27 = .ok (.iconst 0, 1) := by decide +kernel
theorem dX6_summers_28 : decode cX6_summers 28 = .ok (.istore_n 3, 1) := by decide +kernel
theorem dX6_summers_29 : decode cX6_summers 29 = .ok (.iload_n 3, 1) := by decide +kernel
theorem dX6_summers_30 : decode cX6_summers 30 = .ok (.iload_n 1, 1) := by decide +kernel
theorem dX6_summers_31 : decode cX6_summers 31 = .ok (.if_icmp .ge 54, 3) := by decide +kernel
theorem dX6_summers_34 : decode cX6_summers 34 = .ok (.aload_n 0, 1) := by decide +kernel
theorem dX6_summers_35 : decode cX6_summers 35 = .ok (.aload_n 0, 1) := by decide +kernel
theorem dX6_summers_36 : decode cX6_summers 36 = .ok (.getfield 239, 3) := by decide +kernel
theorem dX6_summers_39 : decode cX6_summers 39 = .ok (.ldc2_w 243, 3) := by decide +kernel
theorem dX6_summers_42 : decode cX6_summers 42 = .ok (.lmul, 1) := by decide +kernel
theorem dX6_summers_43 : decode cX6_summers 43 = .ok (.ldc2_w 245, 3) := by decide +kernel
theorem dX6_summers_46 : decode cX6_summers 46 = .ok (.ladd, 1) := by decide +kernel
theorem dX6_summers_47 : decode cX6_summers 47 = .ok (.putfield 239, 3) := by decide +kernel
theorem dX6_summers_50 : decode cX6_summers 50 = .ok (.aload_n 0, 1) := by decide +kernel
theorem dX6_summers_51 : decode cX6_summers 51 = .ok (.getfield 35, 3) := by decide +kernel
theorem dX6_summers_54 : decode cX6_summers 54 = .ok (.aload_n 0, 1) := by decide +kernel
theorem dX6_summers_55 : decode cX6_summers 55 = .ok (.getfield 239, 3) := by decide +kernel
theorem dX6_summers_58 : decode cX6_summers 58 = .ok (.bipush 33, 2) := by decide +kernel
theorem dX6_summers_60 : decode cX6_summers 60 = .ok (.lushr, 1) := by decide +kernel
theorem dX6_summers_61 : decode cX6_summers 61 = .ok (.ldc2_w 247, 3) := by decide +kernel
theorem dX6_summers_64 : decode cX6_summers 64 = .ok (.lrem, 1) := by decide +kernel
theorem dX6_summers_65 : decode cX6_summers 65 = .ok (.l2i, 1) := by decide +kernel
theorem dX6_summers_66 : decode cX6_summers 66 = .ok (.invokevirtual 249, 3) := by decide +kernel
theorem dX6_summers_69 : decode cX6_summers 69 = .ok (.iload_n 2, 1) := by decide +kernel
theorem dX6_summers_70 : decode cX6_summers 70 = .ok (.aload_n 0, 1) := by decide +kernel
theorem dX6_summers_71 : decode cX6_summers 71 = .ok (.getfield 35, 3) := by decide +kernel
theorem dX6_summers_74 : decode cX6_summers 74 = .ok (.invokevirtual 252, 3) := by decide +kernel
theorem dX6_summers_77 : decode cX6_summers 77 = .ok (.iadd, 1) := by decide +kernel
theorem dX6_summers_78 : decode cX6_summers 78 = .ok (.istore_n 2, 1) := by decide +kernel
theorem dX6_summers_79 : decode cX6_summers 79 = .ok (.iinc 3 1, 3) := by decide +kernel
theorem dX6_summers_82 : decode cX6_summers 82 = .ok (.goto (-53), 3) := by decide +kernel
theorem dX6_summers_85 : decode cX6_summers 85 = .ok (.iload_n 2, 1) := by decide +kernel
theorem dX6_summers_86 : decode cX6_summers 86 = .ok (.ireturn, 1) := by decide +kernel
set_option maxRecDepth 20000 in
theorem ggX6_keep_X4_takeFrom : GoodIn wsX6_keep wsX4_takeFrom := goodIn_r _ [9, 10, 11, 12, 13, 14, 15, 29, 30, 31, 32, 33, 34, 35] (by decide +kernel) (by decide +kernel)
set_option maxRecDepth 20000 in
theorem gX6_keep_X4_takeFrom : GoodIn wsX6_keep (wsV RX6 193 RX4 yX4_takeFrom wsX4_takeFrom) := goodIn_app (goodIn_of _ (by decide +kernel)) ggX6_keep_X4_takeFrom
theorem dX6_keep_0 : decode cX6_keep 0 = .ok (.iload_n 1, 1) := by decide +kernel
theorem dX6_keep_1 : decode cX6_keep 1 = .ok (.ifCond .lt 8, 3) := by decide +kernel
theorem dX6_keep_4 : decode cX6_keep 4 = .ok (.iload_n 1, 1) := by decide +kernel
theorem dX6_keep_5 : decode cX6_keep 5 = .ok (.iconst 2, 1) := by decide +kernel
theorem dX6_keep_6 : decode cX6_keep 6 = .ok (.if_icmp .lt 5, 3) := by decide +kernel
theorem dX6_keep_9 : decode cX6_keep 9 = .ok (.iconst (-1), 1) := by decide +kernel
theorem dX6_keep_10 : decode cX6_keep 10 = .ok (.ireturn, 1) := by decide +kernel
theorem dX6_keep_11 : decode cX6_keep 11 = .ok (.aload_n 0, 1) := by decide +kernel
theorem dX6_keep_12 : decode cX6_keep 12 = .ok (.getfield 45, 3) := by decide +kernel
theorem dX6_keep_15 : decode cX6_keep 15 = .ok (.iload_n 1, 1) := by decide +kernel
theorem dX6_keep_16 : decode cX6_keep 16 = .ok (.aaload, 1) := by decide +kernel
theorem dX6_keep_17 : decode cX6_keep 17 = .ok (.aload_n 0, 1) := by decide +kernel
theorem dX6_keep_18 : decode cX6_keep 18 = .ok (.getfield 31, 3) := by decide +kernel
theorem dX6_keep_21 : decode cX6_keep 21 = .ok (.invokevirtual 193, 3) := by decide +kernel
theorem dX6_keep_24 : decode cX6_keep 24 = .ok (.aload_n 0, 1) := by decide +kernel
theorem dX6_keep_25 : decode cX6_keep 25 = .ok (.getfield 49, 3) := by decide +kernel
theorem dX6_keep_28 : decode cX6_keep 28 = .ok (.iload_n 1, 1) := by decide +kernel
theorem dX6_keep_29 : decode cX6_keep 29 = .ok (.iconst 1, 1) := by decide +kernel
theorem dX6_keep_30 : decode cX6_keep 30 = .ok (.bastore, 1) := by decide +kernel
theorem dX6_keep_31 : decode cX6_keep 31 = .ok (.aload_n 0, 1) := by decide +kernel
theorem dX6_keep_32 : decode cX6_keep 32 = .ok (.getfield 31, 3) := by decide +kernel
theorem dX6_keep_35 : decode cX6_keep 35 = .ok (.getfield 255, 3) := by decide +kernel
theorem dX6_keep_38 : decode cX6_keep 38 = .ok (.ireturn, 1) := by decide +kernel
set_option maxRecDepth 20000 in
theorem ggX6_again_X4_takeFrom : GoodIn wsX6_again wsX4_takeFrom := goodIn_r _ [11, 12, 13, 14, 15, 16, 17, 34, 35, 36, 37, 38, 39, 40] (by decide +kernel) (by decide +kernel)
set_option maxRecDepth 20000 in
theorem gX6_again_X4_takeFrom : GoodIn wsX6_again (wsV RX6 193 RX4 yX4_takeFrom wsX4_takeFrom) := goodIn_app (goodIn_of _ (by decide +kernel)) ggX6_again_X4_takeFrom
theorem dX6_again_0 : decode cX6_again 0 = .ok (.iload_n 1, 1) := by decide +kernel
theorem dX6_again_1 : decode cX6_again 1 = .ok (.ifCond .lt 8, 3) := by decide +kernel
theorem dX6_again_4 : decode cX6_again 4 = .ok (.iload_n 1, 1) := by decide +kernel
theorem dX6_again_5 : decode cX6_again 5 = .ok (.iconst 2, 1) := by decide +kernel
theorem dX6_again_6 : decode cX6_again 6 = .ok (.if_icmp .lt 5, 3) := by decide +kernel
theorem dX6_again_9 : decode cX6_again 9 = .ok (.iconst (-1), 1) := by decide +kernel
theorem dX6_again_10 : decode cX6_again 10 = .ok (.ireturn, 1) := by decide +kernel
theorem dX6_again_11 : decode cX6_again 11 = .ok (.aload_n 0, 1) := by decide +kernel
theorem dX6_again_12 : decode cX6_again 12 = .ok (.getfield 49, 3) := by decide +kernel
theorem dX6_again_15 : decode cX6_again 15 = .ok (.iload_n 1, 1) := by decide +kernel
theorem dX6_again_16 : decode cX6_again 16 = .ok (.baload, 1) := by decide +kernel
theorem dX6_again_17 : decode cX6_again 17 = .ok (.ifCond .ne 6, 3) := by decide +kernel
theorem dX6_again_20 : decode cX6_again 20 = .ok (.bipush (-3), 2) := by decide +kernel
theorem dX6_again_22 : decode cX6_again 22 = .ok (.ireturn, 1) := by decide +kernel
theorem dX6_again_23 : decode cX6_again 23 = .ok (.aload_n 0, 1) := by decide +kernel
theorem dX6_again_24 : decode cX6_again 24 = .ok (.getfield 31, 3) := by decide +kernel
theorem dX6_again_27 : decode cX6_again 27 = .ok (.aload_n 0, 1) := by decide +kernel
theorem dX6_again_28 : decode cX6_again 28 = .ok (.getfield 45, 3) := by decide +kernel
theorem dX6_again_31 : decode cX6_again 31 = .ok (.iload_n 1, 1) := by decide +kernel
theorem dX6_again_32 : decode cX6_again 32 = .ok (.aaload, 1) := by decide +kernel
theorem dX6_again_33 : decode cX6_again 33 = .ok (.invokevirtual 193, 3) := by decide +kernel
theorem dX6_again_36 : decode cX6_again 36 = .ok (.aload_n 0, 1) := by decide +kernel
theorem dX6_again_37 : decode cX6_again 37 = .ok (.getfield 41, 3) := by decide +kernel
theorem dX6_again_40 : decode cX6_again 40 = .ok (.iconst 0, 1) := by decide +kernel
theorem dX6_again_41 : decode cX6_again 41 = .ok (.putfield 89, 3) := by decide +kernel
theorem dX6_again_44 : decode cX6_again 44 = .ok (.aload_n 0, 1) := by decide +kernel
theorem dX6_again_45 : decode cX6_again 45 = .ok (.getfield 31, 3) := by decide +kernel
theorem dX6_again_48 : decode cX6_again 48 = .ok (.getfield 255, 3) := by decide +kernel
theorem dX6_again_51 : decode cX6_again 51 = .ok (.ireturn, 1) := by decide +kernel
set_option maxRecDepth 20000 in
theorem ggX6_count_X4_placesTaken : GoodIn wsX6_count wsX4_placesTaken := goodIn_r _ [19, 20, 21, 22, 50, 51, 52, 53, 54, 55, 56, 43, 44, 45, 46, 47, 48, 49] (by decide +kernel) (by decide +kernel)
set_option maxRecDepth 20000 in
theorem gX6_count_X4_placesTaken : GoodIn wsX6_count (wsV RX6 258 RX4 yX4_placesTaken wsX4_placesTaken) := goodIn_app (goodIn_of _ (by decide +kernel)) ggX6_count_X4_placesTaken
set_option maxRecDepth 20000 in
theorem ggX6_count_X4_windTogether : GoodIn wsX6_count wsX4_windTogether := goodIn_r _ [26, 20, 21, 27, 50, 51, 52, 53, 54, 55, 56, 43, 44, 45, 46, 47, 48, 49] (by decide +kernel) (by decide +kernel)
set_option maxRecDepth 20000 in
theorem gX6_count_X4_windTogether : GoodIn wsX6_count (wsV RX6 261 RX4 yX4_windTogether wsX4_windTogether) := goodIn_app (goodIn_of _ (by decide +kernel)) ggX6_count_X4_windTogether
theorem dX6_count_0 : decode cX6_count 0 = .ok (.iload_n 1, 1) := by decide +kernel
theorem dX6_count_1 : decode cX6_count 1 = .ok (.tableswitch 147 0 10 #[59, 67, 75, 83, 91, 99, 107, 115, 123, 131, 139], 59) := by decide +kernel
theorem dX6_count_60 : decode cX6_count 60 = .ok (.aload_n 0, 1) := by decide +kernel
theorem dX6_count_61 : decode cX6_count 61 = .ok (.getfield 12, 3) := by decide +kernel
theorem dX6_count_64 : decode cX6_count 64 = .ok (.getfield 78, 3) := by decide +kernel
theorem dX6_count_67 : decode cX6_count 67 = .ok (.ireturn, 1) := by decide +kernel
theorem dX6_count_68 : decode cX6_count 68 = .ok (.aload_n 0, 1) := by decide +kernel
theorem dX6_count_69 : decode cX6_count 69 = .ok (.getfield 23, 3) := by decide +kernel
theorem dX6_count_72 : decode cX6_count 72 = .ok (.getfield 90, 3) := by decide +kernel
theorem dX6_count_75 : decode cX6_count 75 = .ok (.ireturn, 1) := by decide +kernel
theorem dX6_count_76 : decode cX6_count 76 = .ok (.aload_n 0, 1) := by decide +kernel
theorem dX6_count_77 : decode cX6_count 77 = .ok (.getfield 23, 3) := by decide +kernel
theorem dX6_count_80 : decode cX6_count 80 = .ok (.getfield 93, 3) := by decide +kernel
theorem dX6_count_83 : decode cX6_count 83 = .ok (.ireturn, 1) := by decide +kernel
theorem dX6_count_84 : decode cX6_count 84 = .ok (.aload_n 0, 1) := by decide +kernel
theorem dX6_count_85 : decode cX6_count 85 = .ok (.getfield 31, 3) := by decide +kernel
theorem dX6_count_88 : decode cX6_count 88 = .ok (.getfield 255, 3) := by decide +kernel
theorem dX6_count_91 : decode cX6_count 91 = .ok (.ireturn, 1) := by decide +kernel
theorem dX6_count_92 : decode cX6_count 92 = .ok (.aload_n 0, 1) := by decide +kernel
theorem dX6_count_93 : decode cX6_count 93 = .ok (.getfield 31, 3) := by decide +kernel
theorem dX6_count_96 : decode cX6_count 96 = .ok (.getfield 160, 3) := by decide +kernel
theorem dX6_count_99 : decode cX6_count 99 = .ok (.ireturn, 1) := by decide +kernel
theorem dX6_count_100 : decode cX6_count 100 = .ok (.aload_n 0, 1) := by decide +kernel
theorem dX6_count_101 : decode cX6_count 101 = .ok (.getfield 31, 3) := by decide +kernel
theorem dX6_count_104 : decode cX6_count 104 = .ok (.getfield 109, 3) := by decide +kernel
theorem dX6_count_107 : decode cX6_count 107 = .ok (.ireturn, 1) := by decide +kernel
theorem dX6_count_108 : decode cX6_count 108 = .ok (.aload_n 0, 1) := by decide +kernel
theorem dX6_count_109 : decode cX6_count 109 = .ok (.getfield 31, 3) := by decide +kernel
theorem dX6_count_112 : decode cX6_count 112 = .ok (.getfield 112, 3) := by decide +kernel
theorem dX6_count_115 : decode cX6_count 115 = .ok (.ireturn, 1) := by decide +kernel
theorem dX6_count_116 : decode cX6_count 116 = .ok (.aload_n 0, 1) := by decide +kernel
theorem dX6_count_117 : decode cX6_count 117 = .ok (.getfield 31, 3) := by decide +kernel
theorem dX6_count_120 : decode cX6_count 120 = .ok (.invokevirtual 258, 3) := by decide +kernel
theorem dX6_count_123 : decode cX6_count 123 = .ok (.ireturn, 1) := by decide +kernel
theorem dX6_count_124 : decode cX6_count 124 = .ok (.aload_n 0, 1) := by decide +kernel
theorem dX6_count_125 : decode cX6_count 125 = .ok (.getfield 31, 3) := by decide +kernel
theorem dX6_count_128 : decode cX6_count 128 = .ok (.invokevirtual 261, 3) := by decide +kernel
theorem dX6_count_131 : decode cX6_count 131 = .ok (.ireturn, 1) := by decide +kernel
theorem dX6_count_132 : decode cX6_count 132 = .ok (.aload_n 0, 1) := by decide +kernel
theorem dX6_count_133 : decode cX6_count 133 = .ok (.getfield 41, 3) := by decide +kernel
theorem dX6_count_136 : decode cX6_count 136 = .ok (.getfield 89, 3) := by decide +kernel
theorem dX6_count_139 : decode cX6_count 139 = .ok (.ireturn, 1) := by decide +kernel
theorem dX6_count_140 : decode cX6_count 140 = .ok (.aload_n 0, 1) := by decide +kernel
theorem dX6_count_141 : decode cX6_count 141 = .ok (.getfield 63, 3) := by decide +kernel
theorem dX6_count_144 : decode cX6_count 144 = .ok (.getfield 204, 3) := by decide +kernel
theorem dX6_count_147 : decode cX6_count 147 = .ok (.ireturn, 1) := by decide +kernel
theorem dX6_count_148 : decode cX6_count 148 = .ok (.bipush (-2), 2) := by decide +kernel
theorem dX6_count_150 : decode cX6_count 150 = .ok (.ireturn, 1) := by decide +kernel
set_option maxRecDepth 20000 in
theorem ggX6_reachIn_X5_prepare : GoodIn wsX6_reachIn wsX5_prepare := goodIn_r _ [7, 8, 9, 10, 11, 12, 13, 14, 15, 16, 17, 18, 19, 20, 21, 22, 23, 24, 25, 26, 27, 28, 29, 30, 31, 32, 33, 6, 34, 82, 83, 84, 85, 86, 87, 88, 89, 90, 91, 92, 93, 94, 95, 96, 97, 98, 75, 76, 77, 78, 79, 80, 81] (by decide +kernel) (by decide +kernel)
set_option maxRecDepth 20000 in
theorem gX6_reachIn_X5_prepare : GoodIn wsX6_reachIn (wsV RX6 173 RX5 yX5_prepare wsX5_prepare) := goodIn_app (goodIn_of _ (by decide +kernel)) ggX6_reachIn_X5_prepare
set_option maxRecDepth 20000 in
theorem ggX6_reachIn_X5_places : GoodIn wsX6_reachIn wsX5_places := goodIn_r _ [38, 39, 21, 40, 41, 42, 6, 43, 44, 18, 45, 46, 47, 48, 49, 50, 51, 52, 53, 54, 55, 56, 8, 10, 13, 11, 57, 15, 58, 59, 60, 61, 16, 82, 83, 84, 85, 86, 87, 88, 89, 90, 91, 92, 93, 94, 95, 96, 97, 98] (by decide +kernel) (by decide +kernel)
set_option maxRecDepth 20000 in
theorem gX6_reachIn_X5_places : GoodIn wsX6_reachIn (wsV RX6 264 RX5 yX5_places wsX5_places) := goodIn_app (goodIn_of _ (by decide +kernel)) ggX6_reachIn_X5_places
theorem dX6_reachIn_0 : decode cX6_reachIn 0 = .ok (.aload_n 0, 1) := by decide +kernel
theorem dX6_reachIn_1 : decode cX6_reachIn 1 = .ok (.getfield 56, 3) := by decide +kernel
theorem dX6_reachIn_4 : decode cX6_reachIn 4 = .ok (.aload_n 1, 1) := by decide +kernel
theorem dX6_reachIn_5 : decode cX6_reachIn 5 = .ok (.iload_n 2, 1) := by decide +kernel
theorem dX6_reachIn_6 : decode cX6_reachIn 6 = .ok (.aload_n 1, 1) := by decide +kernel
theorem dX6_reachIn_7 : decode cX6_reachIn 7 = .ok (.getfield 109, 3) := by decide +kernel
theorem dX6_reachIn_10 : decode cX6_reachIn 10 = .ok (.iconst 0, 1) := by decide +kernel
theorem dX6_reachIn_11 : decode cX6_reachIn 11 = .ok (.invokevirtual 173, 3) := by decide +kernel
theorem dX6_reachIn_14 : decode cX6_reachIn 14 = .ok (.aload_n 0, 1) := by decide +kernel
theorem dX6_reachIn_15 : decode cX6_reachIn 15 = .ok (.getfield 56, 3) := by decide +kernel
theorem dX6_reachIn_18 : decode cX6_reachIn 18 = .ok (.invokevirtual 264, 3) := by decide +kernel
theorem dX6_reachIn_21 : decode cX6_reachIn 21 = .ok (.ireturn, 1) := by decide +kernel
set_option maxRecDepth 20000 in
theorem ggX6_comesWith_X5_prepare : GoodIn wsX6_comesWith wsX5_prepare := goodIn_r _ [7, 8, 9, 10, 11, 12, 13, 14, 15, 16, 17, 18, 19, 20, 21, 22, 23, 24, 25, 26, 27, 28, 29, 30, 31, 32, 33, 6, 34, 75, 76, 77, 78, 79, 80, 81, 82, 83, 84, 85, 86, 87, 88, 89, 90, 91, 92, 93, 94, 95, 96, 97, 98] (by decide +kernel) (by decide +kernel)
set_option maxRecDepth 20000 in
theorem gX6_comesWith_X5_prepare : GoodIn wsX6_comesWith (wsV RX6 173 RX5 yX5_prepare wsX5_prepare) := goodIn_app (goodIn_of _ (by decide +kernel)) ggX6_comesWith_X5_prepare
set_option maxRecDepth 20000 in
theorem ggX6_comesWith_X5_places : GoodIn wsX6_comesWith wsX5_places := goodIn_r _ [38, 39, 21, 40, 41, 42, 6, 43, 44, 18, 45, 46, 47, 48, 49, 50, 51, 52, 53, 54, 55, 56, 8, 10, 13, 11, 57, 15, 58, 59, 60, 61, 16, 75, 76, 77, 78, 79, 80, 81, 82, 83, 84, 85, 86, 87, 88, 89, 90, 91] (by decide +kernel) (by decide +kernel)
set_option maxRecDepth 20000 in
theorem gX6_comesWith_X5_places : GoodIn wsX6_comesWith (wsV RX6 264 RX5 yX5_places wsX5_places) := goodIn_app (goodIn_of _ (by decide +kernel)) ggX6_comesWith_X5_places
theorem dX6_comesWith_0 : decode cX6_comesWith 0 = .ok (.aload_n 0, 1) := by decide +kernel
theorem dX6_comesWith_1 : decode cX6_comesWith 1 = .ok (.getfield 56, 3) := by decide +kernel
theorem dX6_comesWith_4 : decode cX6_comesWith 4 = .ok (.aload_n 0, 1) := by decide +kernel
theorem dX6_comesWith_5 : decode cX6_comesWith 5 = .ok (.getfield 31, 3) := by decide +kernel
theorem dX6_comesWith_8 : decode cX6_comesWith 8 = .ok (.iload_n 1, 1) := by decide +kernel
theorem dX6_comesWith_9 : decode cX6_comesWith 9 = .ok (.iload_n 3, 1) := by decide +kernel
theorem dX6_comesWith_10 : decode cX6_comesWith 10 = .ok (.iload 4, 2) := by decide +kernel
theorem dX6_comesWith_12 : decode cX6_comesWith 12 = .ok (.invokevirtual 173, 3) := by decide +kernel
theorem dX6_comesWith_15 : decode cX6_comesWith 15 = .ok (.aload_n 0, 1) := by decide +kernel
theorem dX6_comesWith_16 : decode cX6_comesWith 16 = .ok (.getfield 56, 3) := by decide +kernel
theorem dX6_comesWith_19 : decode cX6_comesWith 19 = .ok (.invokevirtual 264, 3) := by decide +kernel
theorem dX6_comesWith_22 : decode cX6_comesWith 22 = .ok (.iload_n 2, 1) := by decide +kernel
theorem dX6_comesWith_23 : decode cX6_comesWith 23 = .ok (.ishr, 1) := by decide +kernel
theorem dX6_comesWith_24 : decode cX6_comesWith 24 = .ok (.iconst 1, 1) := by decide +kernel
theorem dX6_comesWith_25 : decode cX6_comesWith 25 = .ok (.iand, 1) := by decide +kernel
theorem dX6_comesWith_26 : decode cX6_comesWith 26 = .ok (.iconst 1, 1) := by decide +kernel
theorem dX6_comesWith_27 : decode cX6_comesWith 27 = .ok (.if_icmp .ne 7, 3) := by decide +kernel
theorem dX6_comesWith_30 : decode cX6_comesWith 30 = .ok (.iconst 1, 1) := by decide +kernel
theorem dX6_comesWith_31 : decode cX6_comesWith 31 = .ok (.goto 4, 3) := by decide +kernel
theorem dX6_comesWith_34 : decode cX6_comesWith 34 = .ok (.iconst 0, 1) := by decide +kernel
theorem dX6_comesWith_35 : decode cX6_comesWith 35 = .ok (.ireturn, 1) := by decide +kernel
set_option maxRecDepth 20000 in
theorem ggX6_howManyReach_X6_reachIn : GoodIn wsX6_howManyReach wsX6_reachIn := goodIn_r _ [8, 9, 10, 11, 12, 13, 14, 15, 16, 17, 18, 19, 20, 21, 22, 23, 24, 25, 26, 27, 28, 29, 30, 31, 32, 33, 34, 35, 36, 37, 38, 39, 40, 41, 42, 43, 44, 45, 46, 47, 48, 49, 50, 51, 52, 53, 54, 55, 56, 57, 58, 59, 60, 61, 62, 63, 64, 65, 66, 67, 68, 69, 70, 71, 72, 73, 74, 75, 76, 77, 78, 79, 80, 81, 82, 90, 91, 92, 93, 94, 95, 96, 97, 98, 99, 100, 101, 102, 103, 104, 105, 106, 83, 84, 85, 86, 87, 88, 89] (by decide +kernel) (by decide +kernel)
set_option maxRecDepth 20000 in
theorem gX6_howManyReach_X6_reachIn : GoodIn wsX6_howManyReach (wsV RX6 166 RX6 yX6_reachIn wsX6_reachIn) := goodIn_app (goodIn_of _ (by decide +kernel)) ggX6_howManyReach_X6_reachIn
theorem dX6_howManyReach_0 : decode cX6_howManyReach 0 = .ok (.iconst 0, 1) := by decide +kernel
theorem dX6_howManyReach_1 : decode cX6_howManyReach 1 = .ok (.istore_n 2, 1) := by decide +kernel
theorem dX6_howManyReach_2 : decode cX6_howManyReach 2 = .ok (.iconst 0, 1) := by decide +kernel
theorem dX6_howManyReach_3 : decode cX6_howManyReach 3 = .ok (.istore_n 3, 1) := by decide +kernel
theorem dX6_howManyReach_4 : decode cX6_howManyReach 4 = .ok (.iload_n 3, 1) := by decide +kernel
theorem dX6_howManyReach_5 : decode cX6_howManyReach 5 = .ok (.aload_n 0, 1) := by decide +kernel
theorem dX6_howManyReach_6 : decode cX6_howManyReach 6 = .ok (.getfield 23, 3) := by decide +kernel
theorem dX6_howManyReach_9 : decode cX6_howManyReach 9 = .ok (.getfield 93, 3) := by decide +kernel
theorem dX6_howManyReach_12 : decode cX6_howManyReach 12 = .ok (.if_icmp .ge 25, 3) := by decide +kernel
theorem dX6_howManyReach_15 : decode cX6_howManyReach 15 = .ok (.iload_n 2, 1) := by decide +kernel
theorem dX6_howManyReach_16 : decode cX6_howManyReach 16 = .ok (.aload_n 0, 1) := by decide +kernel
theorem dX6_howManyReach_17 : decode cX6_howManyReach 17 = .ok (.aload_n 0, 1) := by decide +kernel
theorem dX6_howManyReach_18 : decode cX6_howManyReach 18 = .ok (.getfield 31, 3) := by decide +kernel
theorem dX6_howManyReach_21 : decode cX6_howManyReach 21 = .ok (.iload_n 3, 1) := by decide +kernel
theorem dX6_howManyReach_22 : decode cX6_howManyReach 22 = .ok (.invokevirtual 166, 3) := by decide +kernel
theorem dX6_howManyReach_25 : decode cX6_howManyReach 25 = .ok (.iload_n 1, 1) := by decide +kernel
theorem dX6_howManyReach_26 : decode cX6_howManyReach 26 = .ok (.ishr, 1) := by decide +kernel
theorem dX6_howManyReach_27 : decode cX6_howManyReach 27 = .ok (.iconst 1, 1) := by decide +kernel
theorem dX6_howManyReach_28 : decode cX6_howManyReach 28 = .ok (.iand, 1) := by decide +kernel
theorem dX6_howManyReach_29 : decode cX6_howManyReach 29 = .ok (.iadd, 1) := by decide +kernel
theorem dX6_howManyReach_30 : decode cX6_howManyReach 30 = .ok (.istore_n 2, 1) := by decide +kernel
theorem dX6_howManyReach_31 : decode cX6_howManyReach 31 = .ok (.iinc 3 1, 3) := by decide +kernel
theorem dX6_howManyReach_34 : decode cX6_howManyReach 34 = .ok (.goto (-30), 3) := by decide +kernel
theorem dX6_howManyReach_37 : decode cX6_howManyReach 37 = .ok (.iload_n 2, 1) := by decide +kernel
theorem dX6_howManyReach_38 : decode cX6_howManyReach 38 = .ok (.ireturn, 1) := by decide +kernel
theorem dX6_sharedPart_0 : decode cX6_sharedPart 0 = .ok (.iload_n 0, 1) := by decide +kernel
theorem dX6_sharedPart_1 : decode cX6_sharedPart 1 = .ok (.ifCond .ne 7, 3) := by decide +kernel
theorem dX6_sharedPart_4 : decode cX6_sharedPart 4 = .ok (.iconst 0, 1) := by decide +kernel
theorem dX6_sharedPart_5 : decode cX6_sharedPart 5 = .ok (.goto 7, 3) := by decide +kernel
theorem dX6_sharedPart_8 : decode cX6_sharedPart 8 = .ok (.bipush 60, 2) := by decide +kernel
theorem dX6_sharedPart_10 : decode cX6_sharedPart 10 = .ok (.iload_n 0, 1) := by decide +kernel
theorem dX6_sharedPart_11 : decode cX6_sharedPart 11 = .ok (.idiv, 1) := by decide +kernel
theorem dX6_sharedPart_12 : decode cX6_sharedPart 12 = .ok (.ireturn, 1) := by decide +kernel
theorem dX6_power_0 : decode cX6_power 0 = .ok (.iconst 1, 1) := by decide +kernel
theorem dX6_power_1 : decode cX6_power 1 = .ok (.istore_n 2, 1) := by decide +kernel
theorem dX6_power_2 : decode cX6_power 2 = .ok (.iconst 0, 1) := by decide +kernel
theorem dX6_power_3 : decode cX6_power 3 = .ok (.istore_n 3, 1) := by decide +kernel
theorem dX6_power_4 : decode cX6_power 4 = .ok (.iload_n 3, 1) := by decide +kernel
theorem dX6_power_5 : decode cX6_power 5 = .ok (.iload_n 1, 1) := by decide +kernel
theorem dX6_power_6 : decode cX6_power 6 = .ok (.if_icmp .ge 13, 3) := by decide +kernel
theorem dX6_power_9 : decode cX6_power 9 = .ok (.iload_n 2, 1) := by decide +kernel
theorem dX6_power_10 : decode cX6_power 10 = .ok (.iload_n 0, 1) := by decide +kernel
theorem dX6_power_11 : decode cX6_power 11 = .ok (.imul, 1) := by decide +kernel
theorem dX6_power_12 : decode cX6_power 12 = .ok (.istore_n 2, 1) := by decide +kernel
theorem dX6_power_13 : decode cX6_power 13 = .ok (.iinc 3 1, 3) := by decide +kernel
theorem dX6_power_16 : decode cX6_power 16 = .ok (.goto (-12), 3) := by decide +kernel
theorem dX6_power_19 : decode cX6_power 19 = .ok (.iload_n 2, 1) := by decide +kernel
theorem dX6_power_20 : decode cX6_power 20 = .ok (.ireturn, 1) := by decide +kernel
set_option maxRecDepth 20000 in
theorem ggX6_fraction_X6_commonDivisor : GoodIn wsX6_fraction wsX6_commonDivisor := goodIn_r _ [4] (by decide +kernel) (by decide +kernel)
set_option maxRecDepth 20000 in
theorem gX6_fraction_X6_commonDivisor : GoodIn wsX6_fraction (va_wsS RX6 267 yX6_commonDivisor wsX6_commonDivisor) := goodIn_app (goodIn_of _ (by decide +kernel)) ggX6_fraction_X6_commonDivisor
theorem dX6_fraction_0 : decode cX6_fraction 0 = .ok (.iload_n 0, 1) := by decide +kernel
theorem dX6_fraction_1 : decode cX6_fraction 1 = .ok (.iload_n 1, 1) := by decide +kernel
theorem dX6_fraction_2 : decode cX6_fraction 2 = .ok (.invokestatic 267, 3) := by decide +kernel
theorem dX6_fraction_5 : decode cX6_fraction 5 = .ok (.istore_n 3, 1) := by decide +kernel
theorem dX6_fraction_6 : decode cX6_fraction 6 = .ok (.iload_n 3, 1) := by decide +kernel
theorem dX6_fraction_7 : decode cX6_fraction 7 = .ok (.ifCond .ne 6, 3) := by decide +kernel
theorem dX6_fraction_10 : decode cX6_fraction 10 = .ok (.bipush (-9), 2) := by decide +kernel
theorem dX6_fraction_12 : decode cX6_fraction 12 = .ok (.ireturn, 1) := by decide +kernel
theorem dX6_fraction_13 : decode cX6_fraction 13 = .ok (.iload_n 2, 1) := by decide +kernel
theorem dX6_fraction_14 : decode cX6_fraction 14 = .ok (.ifCond .eq 9, 3) := by decide +kernel
theorem dX6_fraction_17 : decode cX6_fraction 17 = .ok (.iload_n 0, 1) := by decide +kernel
theorem dX6_fraction_18 : decode cX6_fraction 18 = .ok (.iload_n 3, 1) := by decide +kernel
theorem dX6_fraction_19 : decode cX6_fraction 19 = .ok (.idiv, 1) := by decide +kernel
theorem dX6_fraction_20 : decode cX6_fraction 20 = .ok (.goto 6, 3) := by decide +kernel
theorem dX6_fraction_23 : decode cX6_fraction 23 = .ok (.iload_n 1, 1) := by decide +kernel
theorem dX6_fraction_24 : decode cX6_fraction 24 = .ok (.iload_n 3, 1) := by decide +kernel
theorem dX6_fraction_25 : decode cX6_fraction 25 = .ok (.idiv, 1) := by decide +kernel
theorem dX6_fraction_26 : decode cX6_fraction 26 = .ok (.ireturn, 1) := by decide +kernel
theorem dX6_commonDivisor_0 : decode cX6_commonDivisor 0 = .ok (.iload_n 0, 1) := by decide +kernel
theorem dX6_commonDivisor_1 : decode cX6_commonDivisor 1 = .ok (.istore_n 2, 1) := by decide +kernel
theorem dX6_commonDivisor_2 : decode cX6_commonDivisor 2 = .ok (.iload_n 1, 1) := by decide +kernel
theorem dX6_commonDivisor_3 : decode cX6_commonDivisor 3 = .ok (.istore_n 3, 1) := by decide +kernel
theorem dX6_commonDivisor_4 : decode cX6_commonDivisor 4 = .ok (.iconst 0, 1) := by decide +kernel
theorem dX6_commonDivisor_5 : decode cX6_commonDivisor 5 = .ok (.istore 4, 2) := by decide +kernel
theorem dX6_commonDivisor_7 : decode cX6_commonDivisor 7 = .ok (.iload 4, 2) := by decide +kernel
theorem dX6_commonDivisor_9 : decode cX6_commonDivisor 9 = .ok (.bipush 64, 2) := by decide +kernel
theorem dX6_commonDivisor_11 : decode cX6_commonDivisor 11 = .ok (.if_icmp .ge 23, 3) := by decide +kernel
theorem dX6_commonDivisor_14 : decode cX6_commonDivisor 14 = .ok (.iload_n 3, 1) := by decide +kernel
theorem dX6_commonDivisor_15 : decode cX6_commonDivisor 15 = .ok (.ifCond .eq 19, 3) := by decide +kernel
theorem dX6_commonDivisor_18 : decode cX6_commonDivisor 18 = .ok (.iload_n 2, 1) := by decide +kernel
theorem dX6_commonDivisor_19 : decode cX6_commonDivisor 19 = .ok (.iload_n 3, 1) := by decide +kernel
theorem dX6_commonDivisor_20 : decode cX6_commonDivisor 20 = .ok (.irem, 1) := by decide +kernel
theorem dX6_commonDivisor_21 : decode cX6_commonDivisor 21 = .ok (.istore 5, 2) := by decide +kernel
theorem dX6_commonDivisor_23 : decode cX6_commonDivisor 23 = .ok (.iload_n 3, 1) := by decide +kernel
theorem dX6_commonDivisor_24 : decode cX6_commonDivisor 24 = .ok (.istore_n 2, 1) := by decide +kernel
theorem dX6_commonDivisor_25 : decode cX6_commonDivisor 25 = .ok (.iload 5, 2) := by decide +kernel
theorem dX6_commonDivisor_27 : decode cX6_commonDivisor 27 = .ok (.istore_n 3, 1) := by decide +kernel
theorem dX6_commonDivisor_28 : decode cX6_commonDivisor 28 = .ok (.iinc 4 1, 3) := by decide +kernel
theorem dX6_commonDivisor_31 : decode cX6_commonDivisor 31 = .ok (.goto (-24), 3) := by decide +kernel
theorem dX6_commonDivisor_34 : decode cX6_commonDivisor 34 = .ok (.iload_n 2, 1) := by decide +kernel
theorem dX6_commonDivisor_35 : decode cX6_commonDivisor 35 = .ok (.ireturn, 1) := by decide +kernel
set_option maxRecDepth 20000 in
theorem ggX6_tryPair_X4_takeFrom : GoodIn wsX6_tryPair wsX4_takeFrom := goodIn_r _ [9, 10, 11, 12, 13, 14, 15, 140, 141, 142, 143, 144, 145, 146] (by decide +kernel) (by decide +kernel)
set_option maxRecDepth 20000 in
theorem gX6_tryPair_X4_takeFrom : GoodIn wsX6_tryPair (wsV RX6 193 RX4 yX4_takeFrom wsX4_takeFrom) := goodIn_app (goodIn_of _ (by decide +kernel)) ggX6_tryPair_X4_takeFrom
set_option maxRecDepth 20000 in
theorem ggX6_tryPair_X4_stepIfItCan : GoodIn wsX6_tryPair wsX4_stepIfItCan := goodIn_r _ [19, 20, 21, 22, 8, 23, 24, 11, 25, 26, 27, 28, 29, 30, 31, 32, 33, 34, 35, 36, 37, 38, 39, 10, 40, 41, 42, 43, 44, 45, 46, 47, 48, 13, 14, 12, 49, 50, 51, 52, 53, 54, 55, 56, 57, 58, 59, 60, 61, 62, 63, 15, 140, 141, 142, 143, 144, 145, 146, 147, 148, 149, 150, 151, 152, 153] (by decide +kernel) (by decide +kernel)
set_option maxRecDepth 20000 in
theorem gX6_tryPair_X4_stepIfItCan : GoodIn wsX6_tryPair (wsV RX6 270 RX4 yX4_stepIfItCan wsX4_stepIfItCan) := goodIn_app (goodIn_of _ (by decide +kernel)) ggX6_tryPair_X4_stepIfItCan
set_option maxRecDepth 20000 in
theorem ggX6_tryPair_X6_gainOfPlaces : GoodIn wsX6_tryPair wsX6_gainOfPlaces := goodIn_r _ [68, 1, 69, 70, 71, 72, 67, 73, 74, 75, 76, 77, 78, 79, 80, 81, 82, 83, 84, 85, 86, 87, 88, 89, 90, 91, 92, 93, 94, 95, 50, 51, 28, 52, 53, 54, 96, 56, 57, 97, 98, 99, 100, 101, 102, 103, 104, 105, 106, 107, 108, 109, 110, 111, 112, 113, 114, 115, 116, 117, 118, 119, 120, 121, 122, 123, 124, 125, 126, 127, 128, 129, 130, 131, 132, 133, 134, 135, 136, 137, 138, 139, 140, 141, 142, 143, 144, 145, 146, 154, 155, 156, 157, 158, 159, 160, 161, 162, 163, 147, 148, 149, 150, 151, 152, 153] (by decide +kernel) (by decide +kernel)
set_option maxRecDepth 20000 in
theorem gX6_tryPair_X6_gainOfPlaces : GoodIn wsX6_tryPair (wsV RX6 273 RX6 yX6_gainOfPlaces wsX6_gainOfPlaces) := goodIn_app (goodIn_of _ (by decide +kernel)) ggX6_tryPair_X6_gainOfPlaces
theorem dX6_tryPair_0 : decode cX6_tryPair 0 = .ok (.aload_n 0, 1) := by decide +kernel
theorem dX6_tryPair_1 : decode cX6_tryPair 1 = .ok (.getfield 35, 3) := by decide +kernel
theorem dX6_tryPair_4 : decode cX6_tryPair 4 = .ok (.aload_n 0, 1) := by decide +kernel
theorem dX6_tryPair_5 : decode cX6_tryPair 5 = .ok (.getfield 31, 3) := by decide +kernel
theorem dX6_tryPair_8 : decode cX6_tryPair 8 = .ok (.invokevirtual 193, 3) := by decide +kernel
theorem dX6_tryPair_11 : decode cX6_tryPair 11 = .ok (.iload_n 3, 1) := by decide +kernel
theorem dX6_tryPair_12 : decode cX6_tryPair 12 = .ok (.iconst 3, 1) := by decide +kernel
theorem dX6_tryPair_13 : decode cX6_tryPair 13 = .ok (.idiv, 1) := by decide +kernel
theorem dX6_tryPair_14 : decode cX6_tryPair 14 = .ok (.istore 4, 2) := by decide +kernel
theorem dX6_tryPair_16 : decode cX6_tryPair 16 = .ok (.iload_n 3, 1) := by decide +kernel
theorem dX6_tryPair_17 : decode cX6_tryPair 17 = .ok (.iconst 3, 1) := by decide +kernel
theorem dX6_tryPair_18 : decode cX6_tryPair 18 = .ok (.irem, 1) := by decide +kernel
theorem dX6_tryPair_19 : decode cX6_tryPair 19 = .ok (.istore 5, 2) := by decide +kernel
theorem dX6_tryPair_21 : decode cX6_tryPair 21 = .ok (.iload 4, 2) := by decide +kernel
theorem dX6_tryPair_23 : decode cX6_tryPair 23 = .ok (.iconst 2, 1) := by decide +kernel
theorem dX6_tryPair_24 : decode cX6_tryPair 24 = .ok (.if_icmp .eq 29, 3) := by decide +kernel
theorem dX6_tryPair_27 : decode cX6_tryPair 27 = .ok (.aload_n 0, 1) := by decide +kernel
theorem dX6_tryPair_28 : decode cX6_tryPair 28 = .ok (.getfield 35, 3) := by decide +kernel
theorem dX6_tryPair_31 : decode cX6_tryPair 31 = .ok (.iload_n 1, 1) := by decide +kernel
theorem dX6_tryPair_32 : decode cX6_tryPair 32 = .ok (.iload 4, 2) := by decide +kernel
theorem dX6_tryPair_34 : decode cX6_tryPair 34 = .ok (.iconst 1, 1) := by decide +kernel
theorem dX6_tryPair_35 : decode cX6_tryPair 35 = .ok (.if_icmp .ne 7, 3) := by decide +kernel
theorem dX6_tryPair_38 : decode cX6_tryPair 38 = .ok (.iconst 1, 1) := by decide +kernel
theorem dX6_tryPair_39 : decode cX6_tryPair 39 = .ok (.goto 4, 3) := by decide +kernel
theorem dX6_tryPair_42 : decode cX6_tryPair 42 = .ok (.iconst 0, 1) := by decide +kernel
theorem dX6_tryPair_43 : decode cX6_tryPair 43 = .ok (.invokevirtual 270, 3) := by decide +kernel
theorem dX6_tryPair_46 : decode cX6_tryPair 46 = .ok (.ifCond .eq 7, 3) := by decide +kernel
theorem dX6_tryPair_49 : decode cX6_tryPair 49 = .ok (.iconst 1, 1) := by decide +kernel
theorem dX6_tryPair_50 : decode cX6_tryPair 50 = .ok (.goto 4, 3) := by decide +kernel
theorem dX6_tryPair_53 : decode cX6_tryPair 53 = .ok (.iconst 0, 1) := by decide +kernel
theorem dX6_tryPair_54 : decode cX6_tryPair 54 = .ok (.istore 6, 2) := by decide +kernel
theorem dX6_tryPair_56 : decode cX6_tryPair 56 = .ok (.iload 5, 2) := by decide +kernel
theorem dX6_tryPair_58 : decode cX6_tryPair 58 = .ok (.iconst 2, 1) := by decide +kernel
theorem dX6_tryPair_59 : decode cX6_tryPair 59 = .ok (.if_icmp .eq 29, 3) := by decide +kernel
theorem dX6_tryPair_62 : decode cX6_tryPair 62 = .ok (.aload_n 0, 1) := by decide +kernel
theorem dX6_tryPair_63 : decode cX6_tryPair 63 = .ok (.getfield 35, 3) := by decide +kernel
theorem dX6_tryPair_66 : decode cX6_tryPair 66 = .ok (.iload_n 2, 1) := by decide +kernel
theorem dX6_tryPair_67 : decode cX6_tryPair 67 = .ok (.iload 5, 2) := by decide +kernel
theorem dX6_tryPair_69 : decode cX6_tryPair 69 = .ok (.iconst 1, 1) := by decide +kernel
theorem dX6_tryPair_70 : decode cX6_tryPair 70 = .ok (.if_icmp .ne 7, 3) := by decide +kernel
theorem dX6_tryPair_73 : decode cX6_tryPair 73 = .ok (.iconst 1, 1) := by decide +kernel
theorem dX6_tryPair_74 : decode cX6_tryPair 74 = .ok (.goto 4, 3) := by decide +kernel
theorem dX6_tryPair_77 : decode cX6_tryPair 77 = .ok (.iconst 0, 1) := by decide +kernel
theorem dX6_tryPair_78 : decode cX6_tryPair 78 = .ok (.invokevirtual 270, 3) := by decide +kernel
theorem dX6_tryPair_81 : decode cX6_tryPair 81 = .ok (.ifCond .eq 7, 3) := by decide +kernel
theorem dX6_tryPair_84 : decode cX6_tryPair 84 = .ok (.iconst 1, 1) := by decide +kernel
theorem dX6_tryPair_85 : decode cX6_tryPair 85 = .ok (.goto 4, 3) := by decide +kernel
theorem dX6_tryPair_88 : decode cX6_tryPair 88 = .ok (.iconst 0, 1) := by decide +kernel
theorem dX6_tryPair_89 : decode cX6_tryPair 89 = .ok (.istore 7, 2) := by decide +kernel
theorem dX6_tryPair_91 : decode cX6_tryPair 91 = .ok (.aload_n 0, 1) := by decide +kernel
theorem dX6_tryPair_92 : decode cX6_tryPair 92 = .ok (.getfield 67, 3) := by decide +kernel
theorem dX6_tryPair_95 : decode cX6_tryPair 95 = .ok (.iload_n 3, 1) := by decide +kernel
theorem dX6_tryPair_96 : decode cX6_tryPair 96 = .ok (.iload 6, 2) := by decide +kernel
theorem dX6_tryPair_98 : decode cX6_tryPair 98 = .ok (.ifCond .eq 7, 3) := by decide +kernel
theorem dX6_tryPair_101 : decode cX6_tryPair 101 = .ok (.iconst 1, 1) := by decide +kernel
theorem dX6_tryPair_102 : decode cX6_tryPair 102 = .ok (.goto 4, 3) := by decide +kernel
theorem dX6_tryPair_105 : decode cX6_tryPair 105 = .ok (.iconst 0, 1) := by decide +kernel
theorem dX6_tryPair_106 : decode cX6_tryPair 106 = .ok (.aload_n 0, 1) := by decide +kernel
theorem dX6_tryPair_107 : decode cX6_tryPair 107 = .ok (.iload_n 1, 1) := by decide +kernel
theorem dX6_tryPair_108 : decode cX6_tryPair 108 = .ok (.iload_n 2, 1) := by decide +kernel
theorem dX6_tryPair_109 : decode cX6_tryPair 109 = .ok (.invokevirtual 273, 3) := by decide +kernel
theorem dX6_tryPair_112 : decode cX6_tryPair 112 = .ok (.iadd, 1) := by decide +kernel
theorem dX6_tryPair_113 : decode cX6_tryPair 113 = .ok (.iastore, 1) := by decide +kernel
theorem dX6_tryPair_114 : decode cX6_tryPair 114 = .ok (.aload_n 0, 1) := by decide +kernel
theorem dX6_tryPair_115 : decode cX6_tryPair 115 = .ok (.getfield 71, 3) := by decide +kernel
theorem dX6_tryPair_118 : decode cX6_tryPair 118 = .ok (.iload_n 3, 1) := by decide +kernel
theorem dX6_tryPair_119 : decode cX6_tryPair 119 = .ok (.iload 7, 2) := by decide +kernel
theorem dX6_tryPair_121 : decode cX6_tryPair 121 = .ok (.ifCond .eq 7, 3) := by decide +kernel
theorem dX6_tryPair_124 : decode cX6_tryPair 124 = .ok (.iconst 1, 1) := by decide +kernel
theorem dX6_tryPair_125 : decode cX6_tryPair 125 = .ok (.goto 4, 3) := by decide +kernel
theorem dX6_tryPair_128 : decode cX6_tryPair 128 = .ok (.iconst 0, 1) := by decide +kernel
theorem dX6_tryPair_129 : decode cX6_tryPair 129 = .ok (.aload_n 0, 1) := by decide +kernel
theorem dX6_tryPair_130 : decode cX6_tryPair 130 = .ok (.iload_n 2, 1) := by decide +kernel
theorem dX6_tryPair_131 : decode cX6_tryPair 131 = .ok (.iload_n 1, 1) := by decide +kernel
theorem dX6_tryPair_132 : decode cX6_tryPair 132 = .ok (.invokevirtual 273, 3) := by decide +kernel
theorem dX6_tryPair_135 : decode cX6_tryPair 135 = .ok (.iadd, 1) := by decide +kernel
theorem dX6_tryPair_136 : decode cX6_tryPair 136 = .ok (.iastore, 1) := by decide +kernel
theorem dX6_tryPair_137 : decode cX6_tryPair 137 = .ok (.return_, 1) := by decide +kernel
set_option maxRecDepth 20000 in
theorem ggX6_gainOfPlaces_X6_reachIn : GoodIn wsX6_gainOfPlaces wsX6_reachIn := goodIn_r _ [7, 8, 9, 10, 11, 12, 13, 14, 15, 16, 17, 18, 19, 20, 21, 22, 23, 24, 25, 26, 27, 28, 29, 30, 31, 32, 33, 34, 35, 36, 37, 38, 39, 40, 41, 42, 43, 44, 45, 46, 47, 48, 49, 50, 51, 52, 53, 54, 55, 56, 57, 58, 59, 60, 61, 62, 63, 64, 65, 66, 67, 68, 69, 70, 71, 72, 73, 74, 75, 76, 77, 78, 79, 80, 81, 82, 83, 84, 85, 86, 87, 88, 89, 90, 91, 92, 93, 94, 95, 96, 97, 98, 99, 100, 101, 102, 103, 104, 105] (by decide +kernel) (by decide +kernel)
set_option maxRecDepth 20000 in
theorem gX6_gainOfPlaces_X6_reachIn : GoodIn wsX6_gainOfPlaces (wsV RX6 166 RX6 yX6_reachIn wsX6_reachIn) := goodIn_app (goodIn_of _ (by decide +kernel)) ggX6_gainOfPlaces_X6_reachIn
theorem dX6_gainOfPlaces_0 : decode cX6_gainOfPlaces 0 = .ok (.aload_n 0, 1) := by decide +kernel
