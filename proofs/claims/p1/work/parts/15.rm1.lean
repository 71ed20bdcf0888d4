theorem t_3 : (3 : Int32).toInt = 3 := by decide
theorem t_7 : (7 : Int32).toInt = 7 := by decide
set_option maxRecDepth 20000 in
theorem ggX12_feed_X9_hasRoom : GoodIn wsX12_feed wsX9_hasRoom := goodIn_r _ [7, 8, 32, 33] (by decide +kernel) (by decide +kernel)
set_option maxRecDepth 20000 in
theorem gX12_feed_X9_hasRoom : GoodIn wsX12_feed (wsV RX12 107 RX9 yX9_hasRoom wsX9_hasRoom) := goodIn_app (goodIn_of _ (by decide +kernel)) ggX12_feed_X9_hasRoom
set_option maxRecDepth 20000 in
theorem ggX12_feed_X9_add : GoodIn wsX12_feed wsX9_add := goodIn_r _ [12, 8, 13, 32, 33] (by decide +kernel) (by decide +kernel)
set_option maxRecDepth 20000 in
theorem gX12_feed_X9_add : GoodIn wsX12_feed (wsV RX12 111 RX9 yX9_add wsX9_add) := goodIn_app (goodIn_of _ (by decide +kernel)) ggX12_feed_X9_add
theorem dX12_feed_0 : decode cX12_feed 0 = .ok (.aload_n 0, 1) := by decide +kernel
theorem dX12_feed_1 : decode cX12_feed 1 = .ok (.getfield 10, 3) := by decide +kernel
theorem dX12_feed_4 : decode cX12_feed 4 = .ok (.invokevirtual 107, 3) := by decide +kernel
theorem dX12_feed_7 : decode cX12_feed 7 = .ok (.ifCond .ne 5, 3) := by decide +kernel
theorem dX12_feed_12 : decode cX12_feed 12 = .ok (.aload_n 0, 1) := by decide +kernel
theorem dX12_feed_13 : decode cX12_feed 13 = .ok (.getfield 10, 3) := by decide +kernel
theorem dX12_feed_16 : decode cX12_feed 16 = .ok (.iload_n 1, 1) := by decide +kernel
theorem dX12_feed_17 : decode cX12_feed 17 = .ok (.invokevirtual 111, 3) := by decide +kernel
theorem dX12_feed_20 : decode cX12_feed 20 = .ok (.aload_n 0, 1) := by decide +kernel
theorem dX12_feed_21 : decode cX12_feed 21 = .ok (.getfield 10, 3) := by decide +kernel
theorem dX12_feed_24 : decode cX12_feed 24 = .ok (.iload_n 2, 1) := by decide +kernel
theorem dX12_feed_25 : decode cX12_feed 25 = .ok (.invokevirtual 111, 3) := by decide +kernel
theorem dX12_feed_28 : decode cX12_feed 28 = .ok (.aload_n 0, 1) := by decide +kernel
theorem dX12_feed_29 : decode cX12_feed 29 = .ok (.getfield 10, 3) := by decide +kernel
theorem dX12_feed_32 : decode cX12_feed 32 = .ok (.iload_n 3, 1) := by decide +kernel
theorem dX12_feed_33 : decode cX12_feed 33 = .ok (.invokevirtual 111, 3) := by decide +kernel
theorem dX12_feed_36 : decode cX12_feed 36 = .ok (.aload_n 0, 1) := by decide +kernel
theorem dX12_feed_37 : decode cX12_feed 37 = .ok (.getfield 10, 3) := by decide +kernel
theorem dX12_feed_40 : decode cX12_feed 40 = .ok (.iload 4, 2) := by decide +kernel
theorem dX12_feed_42 : decode cX12_feed 42 = .ok (.invokevirtual 111, 3) := by decide +kernel
theorem dX12_feed_45 : decode cX12_feed 45 = .ok (.aload_n 0, 1) := by decide +kernel
theorem dX12_feed_46 : decode cX12_feed 46 = .ok (.getfield 10, 3) := by decide +kernel
theorem dX12_feed_49 : decode cX12_feed 49 = .ok (.iload 5, 2) := by decide +kernel
theorem dX12_feed_51 : decode cX12_feed 51 = .ok (.invokevirtual 111, 3) := by decide +kernel
theorem dX12_feed_54 : decode cX12_feed 54 = .ok (.aload_n 0, 1) := by decide +kernel
theorem dX12_feed_55 : decode cX12_feed 55 = .ok (.getfield 10, 3) := by decide +kernel
theorem dX12_feed_58 : decode cX12_feed 58 = .ok (.getfield 115, 3) := by decide +kernel
theorem dX12_feed_61 : decode cX12_feed 61 = .ok (.ireturn, 1) := by decide +kernel
theorem dX12_end_0 : decode cX12_end 0 = .ok (.iload_n 1, 1) := by decide +kernel
theorem dX12_end_1 : decode cX12_end 1 = .ok (.ifCond .lt 14, 3) := by decide +kernel
theorem dX12_end_4 : decode cX12_end 4 = .ok (.iload_n 1, 1) := by decide +kernel
theorem dX12_end_5 : decode cX12_end 5 = .ok (.aload_n 0, 1) := by decide +kernel
theorem dX12_end_6 : decode cX12_end 6 = .ok (.getfield 10, 3) := by decide +kernel
theorem dX12_end_9 : decode cX12_end 9 = .ok (.getfield 115, 3) := by decide +kernel
theorem dX12_end_12 : decode cX12_end 12 = .ok (.if_icmp .le 5, 3) := by decide +kernel
theorem dX12_end_15 : decode cX12_end 15 = .ok (.iconst 0, 1) := by decide +kernel
theorem dX12_end_16 : decode cX12_end 16 = .ok (.ireturn, 1) := by decide +kernel
theorem dX12_end_17 : decode cX12_end 17 = .ok (.aload_n 0, 1) := by decide +kernel
theorem dX12_end_18 : decode cX12_end 18 = .ok (.getfield 10, 3) := by decide +kernel
theorem dX12_end_21 : decode cX12_end 21 = .ok (.iload_n 1, 1) := by decide +kernel
theorem dX12_end_22 : decode cX12_end 22 = .ok (.putfield 115, 3) := by decide +kernel
theorem dX12_end_25 : decode cX12_end 25 = .ok (.iconst 1, 1) := by decide +kernel
theorem dX12_end_26 : decode cX12_end 26 = .ok (.ireturn, 1) := by decide +kernel
theorem dX12_fault_0 : decode cX12_fault 0 = .ok (.aload_n 0, 1) := by decide +kernel
theorem dX12_fault_1 : decode cX12_fault 1 = .ok (.getfield 125, 3) := by decide +kernel
theorem dX12_fault_4 : decode cX12_fault 4 = .ok (.ireturn, 1) := by decide +kernel
set_option maxRecDepth 20000 in
theorem ggX12_rung_X3_kind : GoodIn wsX12_rung wsX3_kind := goodIn_r _ [7, 8, 9, 10, 11, 12, 13, 6, 14, 15, 43, 44, 45, 46, 47, 48] (by decide +kernel) (by decide +kernel)
set_option maxRecDepth 20000 in
theorem gX12_rung_X3_kind : GoodIn wsX12_rung (wsV RX12 159 RX3 yX3_kind wsX3_kind) := goodIn_app (goodIn_of _ (by decide +kernel)) ggX12_rung_X3_kind
theorem dX12_rung_0 : decode cX12_rung 0 = .ok (.aload_n 0, 1) := by decide +kernel
theorem dX12_rung_1 : decode cX12_rung 1 = .ok (.getfield 37, 3) := by decide +kernel
theorem dX12_rung_4 : decode cX12_rung 4 = .ok (.getfield 142, 3) := by decide +kernel
theorem dX12_rung_7 : decode cX12_rung 7 = .ok (.iload_n 1, 1) := by decide +kernel
theorem dX12_rung_8 : decode cX12_rung 8 = .ok (.iload_n 2, 1) := by decide +kernel
theorem dX12_rung_9 : decode cX12_rung 9 = .ok (.invokevirtual 159, 3) := by decide +kernel
theorem dX12_rung_12 : decode cX12_rung 12 = .ok (.ireturn, 1) := by decide +kernel
set_option maxRecDepth 20000 in
theorem ggX12_man_X10_hasMan : GoodIn wsX12_man wsX10_hasMan := goodIn_r _ [9, 10, 92, 93, 94, 95, 96, 97, 98, 99, 100] (by decide +kernel) (by decide +kernel)
set_option maxRecDepth 20000 in
theorem gX12_man_X10_hasMan : GoodIn wsX12_man (wsV RX12 162 RX10 yX10_hasMan wsX10_hasMan) := goodIn_app (goodIn_of _ (by decide +kernel)) ggX12_man_X10_hasMan
theorem dX12_man_0 : decode cX12_man 0 = .ok (.aload_n 0, 1) := by decide +kernel
theorem dX12_man_1 : decode cX12_man 1 = .ok (.getfield 37, 3) := by decide +kernel
theorem dX12_man_4 : decode cX12_man 4 = .ok (.iload_n 1, 1) := by decide +kernel
theorem dX12_man_5 : decode cX12_man 5 = .ok (.invokevirtual 162, 3) := by decide +kernel
theorem dX12_man_8 : decode cX12_man 8 = .ok (.ifCond .ne 5, 3) := by decide +kernel
theorem dX12_man_11 : decode cX12_man 11 = .ok (.iconst (-1), 1) := by decide +kernel
theorem dX12_man_12 : decode cX12_man 12 = .ok (.ireturn, 1) := by decide +kernel
set_option maxRecDepth 20000 in
theorem ggX12_debt_X10_hasMan : GoodIn wsX12_debt wsX10_hasMan := goodIn_r _ [7, 8, 36, 37, 38, 39, 40, 41, 42, 43, 44] (by decide +kernel) (by decide +kernel)
set_option maxRecDepth 20000 in
theorem gX12_debt_X10_hasMan : GoodIn wsX12_debt (wsV RX12 162 RX10 yX10_hasMan wsX10_hasMan) := goodIn_app (goodIn_of _ (by decide +kernel)) ggX12_debt_X10_hasMan
theorem dX12_debt_0 : decode cX12_debt 0 = .ok (.aload_n 0, 1) := by decide +kernel
theorem dX12_debt_1 : decode cX12_debt 1 = .ok (.getfield 37, 3) := by decide +kernel
theorem dX12_debt_4 : decode cX12_debt 4 = .ok (.iload_n 1, 1) := by decide +kernel
theorem dX12_debt_5 : decode cX12_debt 5 = .ok (.invokevirtual 162, 3) := by decide +kernel
theorem dX12_debt_8 : decode cX12_debt 8 = .ok (.ifCond .eq 34, 3) := by decide +kernel
theorem dX12_debt_42 : decode cX12_debt 42 = .ok (.iconst (-1), 1) := by decide +kernel
theorem dX12_debt_43 : decode cX12_debt 43 = .ok (.ireturn, 1) := by decide +kernel
set_option maxRecDepth 20000 in
theorem ggX12_now_X3_bitsThere : GoodIn wsX12_now wsX3_bitsThere := goodIn_r _ [11, 12, 13, 14, 10, 15, 16, 17, 18, 19, 20, 21, 82, 83, 84, 85, 86, 87] (by decide +kernel) (by decide +kernel)
set_option maxRecDepth 20000 in
theorem gX12_now_X3_bitsThere : GoodIn wsX12_now (wsV RX12 196 RX3 yX3_bitsThere wsX3_bitsThere) := goodIn_app (goodIn_of _ (by decide +kernel)) ggX12_now_X3_bitsThere
set_option maxRecDepth 20000 in
theorem ggX12_now_X1_all : GoodIn wsX12_now wsX1_all := goodIn_r _ [26, 27, 88, 89] (by decide +kernel) (by decide +kernel)
set_option maxRecDepth 20000 in
theorem gX12_now_X1_all : GoodIn wsX12_now (wsV RX12 203 RX1 yX1_all wsX1_all) := goodIn_app (goodIn_of _ (by decide +kernel)) ggX12_now_X1_all
set_option maxRecDepth 20000 in
theorem ggX12_now_X3_sum : GoodIn wsX12_now wsX3_sum := goodIn_r _ [31, 16, 32, 33, 34, 10, 35, 21, 36, 37, 38, 39, 40, 41, 42, 43, 44, 45, 46, 47, 48, 49, 50, 51, 52, 53, 54, 82, 83, 84, 85, 86, 87] (by decide +kernel) (by decide +kernel)
set_option maxRecDepth 20000 in
theorem gX12_now_X3_sum : GoodIn wsX12_now (wsV RX12 206 RX3 yX3_sum wsX3_sum) := goodIn_app (goodIn_of _ (by decide +kernel)) ggX12_now_X3_sum
theorem dX12_now_0 : decode cX12_now 0 = .ok (.iload_n 1, 1) := by decide +kernel
theorem dX12_now_1 : decode cX12_now 1 = .ok (.tableswitch 141 0 7 #[47, 55, 66, 74, 85, 97, 109, 133], 47) := by decide +kernel
theorem dX12_now_48 : decode cX12_now 48 = .ok (.aload_n 0, 1) := by decide +kernel
theorem dX12_now_49 : decode cX12_now 49 = .ok (.getfield 37, 3) := by decide +kernel
theorem dX12_now_52 : decode cX12_now 52 = .ok (.getfield 193, 3) := by decide +kernel
theorem dX12_now_55 : decode cX12_now 55 = .ok (.ireturn, 1) := by decide +kernel
theorem dX12_now_56 : decode cX12_now 56 = .ok (.aload_n 0, 1) := by decide +kernel
theorem dX12_now_57 : decode cX12_now 57 = .ok (.getfield 37, 3) := by decide +kernel
theorem dX12_now_60 : decode cX12_now 60 = .ok (.getfield 142, 3) := by decide +kernel
theorem dX12_now_63 : decode cX12_now 63 = .ok (.invokevirtual 196, 3) := by decide +kernel
theorem dX12_now_66 : decode cX12_now 66 = .ok (.ireturn, 1) := by decide +kernel
theorem dX12_now_67 : decode cX12_now 67 = .ok (.aload_n 0, 1) := by decide +kernel
theorem dX12_now_68 : decode cX12_now 68 = .ok (.getfield 37, 3) := by decide +kernel
theorem dX12_now_71 : decode cX12_now 71 = .ok (.getfield 200, 3) := by decide +kernel
theorem dX12_now_74 : decode cX12_now 74 = .ok (.ireturn, 1) := by decide +kernel
theorem dX12_now_75 : decode cX12_now 75 = .ok (.aload_n 0, 1) := by decide +kernel
theorem dX12_now_76 : decode cX12_now 76 = .ok (.getfield 37, 3) := by decide +kernel
theorem dX12_now_79 : decode cX12_now 79 = .ok (.getfield 172, 3) := by decide +kernel
theorem dX12_now_82 : decode cX12_now 82 = .ok (.invokevirtual 203, 3) := by decide +kernel
theorem dX12_now_85 : decode cX12_now 85 = .ok (.ireturn, 1) := by decide +kernel
theorem dX12_now_86 : decode cX12_now 86 = .ok (.aload_n 0, 1) := by decide +kernel
theorem dX12_now_87 : decode cX12_now 87 = .ok (.getfield 37, 3) := by decide +kernel
theorem dX12_now_90 : decode cX12_now 90 = .ok (.getfield 142, 3) := by decide +kernel
theorem dX12_now_93 : decode cX12_now 93 = .ok (.iconst 2, 1) := by decide +kernel
theorem dX12_now_94 : decode cX12_now 94 = .ok (.invokevirtual 206, 3) := by decide +kernel
theorem dX12_now_97 : decode cX12_now 97 = .ok (.ireturn, 1) := by decide +kernel
theorem dX12_now_98 : decode cX12_now 98 = .ok (.aload_n 0, 1) := by decide +kernel
theorem dX12_now_99 : decode cX12_now 99 = .ok (.getfield 37, 3) := by decide +kernel
theorem dX12_now_102 : decode cX12_now 102 = .ok (.getfield 142, 3) := by decide +kernel
theorem dX12_now_105 : decode cX12_now 105 = .ok (.iconst 3, 1) := by decide +kernel
theorem dX12_now_106 : decode cX12_now 106 = .ok (.invokevirtual 206, 3) := by decide +kernel
theorem dX12_now_109 : decode cX12_now 109 = .ok (.ireturn, 1) := by decide +kernel
theorem dX12_now_110 : decode cX12_now 110 = .ok (.aload_n 0, 1) := by decide +kernel
theorem dX12_now_111 : decode cX12_now 111 = .ok (.getfield 37, 3) := by decide +kernel
theorem dX12_now_114 : decode cX12_now 114 = .ok (.getfield 142, 3) := by decide +kernel
theorem dX12_now_117 : decode cX12_now 117 = .ok (.iconst 2, 1) := by decide +kernel
theorem dX12_now_118 : decode cX12_now 118 = .ok (.invokevirtual 206, 3) := by decide +kernel
theorem dX12_now_121 : decode cX12_now 121 = .ok (.aload_n 0, 1) := by decide +kernel
theorem dX12_now_122 : decode cX12_now 122 = .ok (.getfield 37, 3) := by decide +kernel
theorem dX12_now_125 : decode cX12_now 125 = .ok (.getfield 142, 3) := by decide +kernel
theorem dX12_now_128 : decode cX12_now 128 = .ok (.iconst 3, 1) := by decide +kernel
theorem dX12_now_129 : decode cX12_now 129 = .ok (.invokevirtual 206, 3) := by decide +kernel
theorem dX12_now_132 : decode cX12_now 132 = .ok (.isub, 1) := by decide +kernel
theorem dX12_now_133 : decode cX12_now 133 = .ok (.ireturn, 1) := by decide +kernel
theorem dX12_now_134 : decode cX12_now 134 = .ok (.aload_n 0, 1) := by decide +kernel
theorem dX12_now_135 : decode cX12_now 135 = .ok (.getfield 37, 3) := by decide +kernel
theorem dX12_now_138 : decode cX12_now 138 = .ok (.getfield 209, 3) := by decide +kernel
theorem dX12_now_141 : decode cX12_now 141 = .ok (.ireturn, 1) := by decide +kernel
theorem dX12_now_142 : decode cX12_now 142 = .ok (.iconst (-1), 1) := by decide +kernel
theorem dX12_now_143 : decode cX12_now 143 = .ok (.ireturn, 1) := by decide +kernel
theorem dX12_count_0 : decode cX12_count 0 = .ok (.iload_n 1, 1) := by decide +kernel
theorem dX12_count_1 : decode cX12_count 1 = .ok (.tableswitch 66 0 3 #[31, 39, 50, 58], 31) := by decide +kernel
theorem dX12_count_32 : decode cX12_count 32 = .ok (.aload_n 0, 1) := by decide +kernel
theorem dX12_count_33 : decode cX12_count 33 = .ok (.getfield 37, 3) := by decide +kernel
theorem dX12_count_36 : decode cX12_count 36 = .ok (.getfield 212, 3) := by decide +kernel
theorem dX12_count_39 : decode cX12_count 39 = .ok (.ireturn, 1) := by decide +kernel
theorem dX12_count_40 : decode cX12_count 40 = .ok (.aload_n 0, 1) := by decide +kernel
theorem dX12_count_41 : decode cX12_count 41 = .ok (.getfield 37, 3) := by decide +kernel
theorem dX12_count_44 : decode cX12_count 44 = .ok (.getfield 142, 3) := by decide +kernel
theorem dX12_count_47 : decode cX12_count 47 = .ok (.getfield 215, 3) := by decide +kernel
theorem dX12_count_50 : decode cX12_count 50 = .ok (.ireturn, 1) := by decide +kernel
theorem dX12_count_51 : decode cX12_count 51 = .ok (.aload_n 0, 1) := by decide +kernel
theorem dX12_count_52 : decode cX12_count 52 = .ok (.getfield 37, 3) := by decide +kernel
theorem dX12_count_55 : decode cX12_count 55 = .ok (.getfield 216, 3) := by decide +kernel
theorem dX12_count_58 : decode cX12_count 58 = .ok (.ireturn, 1) := by decide +kernel
theorem dX12_count_59 : decode cX12_count 59 = .ok (.aload_n 0, 1) := by decide +kernel
theorem dX12_count_60 : decode cX12_count 60 = .ok (.getfield 10, 3) := by decide +kernel
theorem dX12_count_63 : decode cX12_count 63 = .ok (.getfield 115, 3) := by decide +kernel
theorem dX12_count_66 : decode cX12_count 66 = .ok (.ireturn, 1) := by decide +kernel
theorem dX12_count_67 : decode cX12_count 67 = .ok (.iconst (-1), 1) := by decide +kernel
theorem dX12_count_68 : decode cX12_count 68 = .ok (.ireturn, 1) := by decide +kernel
set_option maxRecDepth 20000 in
theorem ggX12_price_X10_hasMan : GoodIn wsX12_price wsX10_hasMan := goodIn_r _ [13, 14, 104, 105, 106, 107, 108, 109, 110, 111, 112] (by decide +kernel) (by decide +kernel)
set_option maxRecDepth 20000 in
theorem gX12_price_X10_hasMan : GoodIn wsX12_price (wsV RX12 162 RX10 yX10_hasMan wsX10_hasMan) := goodIn_app (goodIn_of _ (by decide +kernel)) ggX12_price_X10_hasMan
theorem dX12_price_0 : decode cX12_price 0 = .ok (.aload_n 0, 1) := by decide +kernel
theorem dX12_price_1 : decode cX12_price 1 = .ok (.getfield 37, 3) := by decide +kernel
theorem dX12_price_4 : decode cX12_price 4 = .ok (.iload_n 1, 1) := by decide +kernel
theorem dX12_price_5 : decode cX12_price 5 = .ok (.invokevirtual 162, 3) := by decide +kernel
theorem dX12_price_8 : decode cX12_price 8 = .ok (.ifCond .eq 15, 3) := by decide +kernel
theorem dX12_price_23 : decode cX12_price 23 = .ok (.iconst (-1), 1) := by decide +kernel
theorem dX12_price_24 : decode cX12_price 24 = .ok (.ireturn, 1) := by decide +kernel
theorem dX12_given_0 : decode cX12_given 0 = .ok (.aload_n 0, 1) := by decide +kernel
theorem dX12_given_1 : decode cX12_given 1 = .ok (.getfield 97, 3) := by decide +kernel
theorem dX12_given_4 : decode cX12_given 4 = .ok (.ireturn, 1) := by decide +kernel
theorem dX12_cut_0 : decode cX12_cut 0 = .ok (.aload_n 0, 1) := by decide +kernel
theorem dX12_cut_1 : decode cX12_cut 1 = .ok (.getfield 101, 3) := by decide +kernel
theorem dX12_cut_4 : decode cX12_cut 4 = .ok (.ireturn, 1) := by decide +kernel
set_option maxRecDepth 20000 in
theorem ggX12_height_X3_fewestFor : GoodIn wsX12_height wsX3_fewestFor := goodIn_r _ [7, 8, 9, 10, 11, 12, 6, 13, 14, 15, 16, 17, 18, 19, 20, 21, 22, 23, 24, 25, 26, 27, 28, 29, 30, 31, 32, 33, 34, 35, 36, 37, 38, 39, 40, 68, 69, 70, 71, 72, 73] (by decide +kernel) (by decide +kernel)
set_option maxRecDepth 20000 in
theorem gX12_height_X3_fewestFor : GoodIn wsX12_height (wsV RX12 286 RX3 yX3_fewestFor wsX3_fewestFor) := goodIn_app (goodIn_of _ (by decide +kernel)) ggX12_height_X3_fewestFor
theorem dX12_height_0 : decode cX12_height 0 = .ok (.iload_n 1, 1) := by decide +kernel
theorem dX12_height_1 : decode cX12_height 1 = .ok (.iconst 1, 1) := by decide +kernel
theorem dX12_height_2 : decode cX12_height 2 = .ok (.if_icmp .lt 10, 3) := by decide +kernel
theorem dX12_height_5 : decode cX12_height 5 = .ok (.iload_n 1, 1) := by decide +kernel
theorem dX12_height_6 : decode cX12_height 6 = .ok (.sipush 500, 3) := by decide +kernel
theorem dX12_height_9 : decode cX12_height 9 = .ok (.if_icmp .le 7, 3) := by decide +kernel
theorem dX12_height_12 : decode cX12_height 12 = .ok (.iconst (-1), 1) := by decide +kernel
theorem dX12_height_13 : decode cX12_height 13 = .ok (.goto 14, 3) := by decide +kernel
theorem dX12_height_16 : decode cX12_height 16 = .ok (.aload_n 0, 1) := by decide +kernel
theorem dX12_height_17 : decode cX12_height 17 = .ok (.getfield 37, 3) := by decide +kernel
theorem dX12_height_20 : decode cX12_height 20 = .ok (.getfield 142, 3) := by decide +kernel
theorem dX12_height_23 : decode cX12_height 23 = .ok (.iload_n 1, 1) := by decide +kernel
theorem dX12_height_24 : decode cX12_height 24 = .ok (.invokevirtual 286, 3) := by decide +kernel
theorem dX12_height_27 : decode cX12_height 27 = .ok (.ireturn, 1) := by decide +kernel
set_option maxRecDepth 20000 in
theorem ggX12_bear_X3_bitsBearing : GoodIn wsX12_bear wsX3_bitsBearing := goodIn_r _ [7, 8, 9, 10, 11, 6, 12, 13, 14, 15, 16, 17, 18, 19, 20, 21, 22, 23, 24, 25, 26, 27, 28, 29, 30, 31, 32, 33, 34, 35, 36, 37, 38, 39, 40, 68, 69, 70, 71, 72, 73] (by decide +kernel) (by decide +kernel)
set_option maxRecDepth 20000 in
theorem gX12_bear_X3_bitsBearing : GoodIn wsX12_bear (wsV RX12 289 RX3 yX3_bitsBearing wsX3_bitsBearing) := goodIn_app (goodIn_of _ (by decide +kernel)) ggX12_bear_X3_bitsBearing
theorem dX12_bear_0 : decode cX12_bear 0 = .ok (.aload_n 0, 1) := by decide +kernel
theorem dX12_bear_1 : decode cX12_bear 1 = .ok (.getfield 37, 3) := by decide +kernel
theorem dX12_bear_4 : decode cX12_bear 4 = .ok (.getfield 142, 3) := by decide +kernel
theorem dX12_bear_7 : decode cX12_bear 7 = .ok (.invokevirtual 289, 3) := by decide +kernel
theorem dX12_bear_10 : decode cX12_bear 10 = .ok (.ireturn, 1) := by decide +kernel
set_option maxRecDepth 20000 in
theorem ggX12_suspect_X3_mostPainted : GoodIn wsX12_suspect wsX3_mostPainted := goodIn_r _ [7, 8, 9, 10, 11, 12, 13, 14, 15, 16, 17, 18, 19, 6, 20, 21, 22, 23, 24, 25, 26, 27, 28, 29, 30, 31, 32, 60, 61, 62, 63, 64, 65] (by decide +kernel) (by decide +kernel)
set_option maxRecDepth 20000 in
theorem gX12_suspect_X3_mostPainted : GoodIn wsX12_suspect (wsV RX12 303 RX3 yX3_mostPainted wsX3_mostPainted) := goodIn_app (goodIn_of _ (by decide +kernel)) ggX12_suspect_X3_mostPainted
theorem dX12_suspect_0 : decode cX12_suspect 0 = .ok (.aload_n 0, 1) := by decide +kernel
theorem dX12_suspect_1 : decode cX12_suspect 1 = .ok (.getfield 37, 3) := by decide +kernel
theorem dX12_suspect_4 : decode cX12_suspect 4 = .ok (.getfield 142, 3) := by decide +kernel
theorem dX12_suspect_7 : decode cX12_suspect 7 = .ok (.invokevirtual 303, 3) := by decide +kernel
theorem dX12_suspect_10 : decode cX12_suspect 10 = .ok (.ireturn, 1) := by decide +kernel
set_option maxRecDepth 20000 in
theorem ggX12_fire_X10_hasMan : GoodIn wsX12_fire wsX10_hasMan := goodIn_r _ [12, 13, 90, 91, 92, 93, 94, 95, 96, 97, 98] (by decide +kernel) (by decide +kernel)
set_option maxRecDepth 20000 in
theorem gX12_fire_X10_hasMan : GoodIn wsX12_fire (wsV RX12 162 RX10 yX10_hasMan wsX10_hasMan) := goodIn_app (goodIn_of _ (by decide +kernel)) ggX12_fire_X10_hasMan
theorem dX12_fire_0 : decode cX12_fire 0 = .ok (.aload_n 0, 1) := by decide +kernel
theorem dX12_fire_1 : decode cX12_fire 1 = .ok (.getfield 37, 3) := by decide +kernel
theorem dX12_fire_4 : decode cX12_fire 4 = .ok (.iload_n 1, 1) := by decide +kernel
theorem dX12_fire_5 : decode cX12_fire 5 = .ok (.invokevirtual 162, 3) := by decide +kernel
theorem dX12_fire_8 : decode cX12_fire 8 = .ok (.ifCond .eq 15, 3) := by decide +kernel
theorem dX12_fire_23 : decode cX12_fire 23 = .ok (.iconst (-1), 1) := by decide +kernel
theorem dX12_fire_24 : decode cX12_fire 24 = .ok (.ireturn, 1) := by decide +kernel
theorem dX12_wood_0 : decode cX12_wood 0 = .ok (.aload_n 0, 1) := by decide +kernel
theorem dX12_wood_1 : decode cX12_wood 1 = .ok (.getfield 104, 3) := by decide +kernel
theorem dX12_wood_4 : decode cX12_wood 4 = .ok (.ireturn, 1) := by decide +kernel
set_option maxRecDepth 20000 in
theorem ggX12_broke_X10_brokeBy : GoodIn wsX12_broke wsX10_brokeBy := goodIn_r _ [6, 7, 8, 9, 10, 11, 12, 13, 14, 15, 16, 17, 18, 19, 20, 21, 22, 23, 24, 25, 26, 27, 28, 29, 30, 31, 32, 33, 34, 35, 36, 37, 38, 39, 40, 41, 42, 43, 44, 45, 46, 47, 48, 49, 50, 51, 52, 53, 54, 55, 56, 75, 76, 77, 78, 79, 80, 81, 82, 83, 84, 85, 86, 87, 88, 89, 90, 91] (by decide +kernel) (by decide +kernel)
set_option maxRecDepth 20000 in
theorem gX12_broke_X10_brokeBy : GoodIn wsX12_broke (wsV RX12 309 RX10 yX10_brokeBy wsX10_brokeBy) := goodIn_app (goodIn_of _ (by decide +kernel)) ggX12_broke_X10_brokeBy
theorem dX12_broke_0 : decode cX12_broke 0 = .ok (.aload_n 0, 1) := by decide +kernel
theorem dX12_broke_1 : decode cX12_broke 1 = .ok (.getfield 37, 3) := by decide +kernel
theorem dX12_broke_4 : decode cX12_broke 4 = .ok (.iconst 2, 1) := by decide +kernel
theorem dX12_broke_5 : decode cX12_broke 5 = .ok (.invokevirtual 309, 3) := by decide +kernel
theorem dX12_broke_8 : decode cX12_broke 8 = .ok (.ireturn, 1) := by decide +kernel
set_option maxRecDepth 20000 in
theorem ggX12_bubbles_X10_brokeBy : GoodIn wsX12_bubbles wsX10_brokeBy := goodIn_r _ [6, 7, 8, 9, 10, 11, 12, 13, 14, 15, 16, 17, 18, 19, 20, 21, 22, 23, 24, 25, 26, 27, 28, 29, 30, 31, 32, 33, 34, 35, 36, 37, 38, 39, 40, 41, 42, 43, 44, 45, 46, 47, 48, 49, 50, 51, 52, 53, 54, 55, 56, 75, 76, 77, 78, 79, 80, 81, 82, 83, 84, 85, 86, 87, 88, 89, 90, 91] (by decide +kernel) (by decide +kernel)
set_option maxRecDepth 20000 in
theorem gX12_bubbles_X10_brokeBy : GoodIn wsX12_bubbles (wsV RX12 309 RX10 yX10_brokeBy wsX10_brokeBy) := goodIn_app (goodIn_of _ (by decide +kernel)) ggX12_bubbles_X10_brokeBy
theorem dX12_bubbles_0 : decode cX12_bubbles 0 = .ok (.aload_n 0, 1) := by decide +kernel
theorem dX12_bubbles_1 : decode cX12_bubbles 1 = .ok (.getfield 37, 3) := by decide +kernel
theorem dX12_bubbles_4 : decode cX12_bubbles 4 = .ok (.iconst 3, 1) := by decide +kernel
theorem dX12_bubbles_5 : decode cX12_bubbles 5 = .ok (.invokevirtual 309, 3) := by decide +kernel
theorem dX12_bubbles_8 : decode cX12_bubbles 8 = .ok (.aload_n 0, 1) := by decide +kernel
theorem dX12_bubbles_9 : decode cX12_bubbles 9 = .ok (.getfield 37, 3) := by decide +kernel
theorem dX12_bubbles_12 : decode cX12_bubbles 12 = .ok (.iconst 2, 1) := by decide +kernel
theorem dX12_bubbles_13 : decode cX12_bubbles 13 = .ok (.invokevirtual 309, 3) := by decide +kernel
theorem dX12_bubbles_16 : decode cX12_bubbles 16 = .ok (.iconst (-1), 1) := by decide +kernel
theorem dX12_bubbles_17 : decode cX12_bubbles 17 = .ok (.ixor, 1) := by decide +kernel
theorem dX12_bubbles_18 : decode cX12_bubbles 18 = .ok (.iand, 1) := by decide +kernel
theorem dX12_bubbles_19 : decode cX12_bubbles 19 = .ok (.ireturn, 1) := by decide +kernel
theorem dX12_forgers_0 : decode cX12_forgers 0 = .ok (.aload_n 0, 1) := by decide +kernel
theorem dX12_forgers_1 : decode cX12_forgers 1 = .ok (.getfield 10, 3) := by decide +kernel
theorem dX12_forgers_4 : decode cX12_forgers 4 = .ok (.getfield 115, 3) := by decide +kernel
theorem dX12_forgers_7 : decode cX12_forgers 7 = .ok (.istore_n 1, 1) := by decide +kernel
theorem dX12_forgers_8 : decode cX12_forgers 8 = .ok (.aload_n 0, 1) := by decide +kernel
theorem dX12_forgers_9 : decode cX12_forgers 9 = .ok (.getfield 10, 3) := by decide +kernel
theorem dX12_forgers_12 : decode cX12_forgers 12 = .ok (.iconst 0, 1) := by decide +kernel
theorem dX12_forgers_13 : decode cX12_forgers 13 = .ok (.putfield 115, 3) := by decide +kernel
theorem dX12_forgers_16 : decode cX12_forgers 16 = .ok (.iload_n 1, 1) := by decide +kernel
theorem dX12_forgers_17 : decode cX12_forgers 17 = .ok (.iconst 1, 1) := by decide +kernel
theorem dX12_forgers_18 : decode cX12_forgers 18 = .ok (.if_icmp .lt 9, 3) := by decide +kernel
theorem dX12_forgers_27 : decode cX12_forgers 27 = .ok (.iconst (-1), 1) := by decide +kernel
theorem dX12_forgers_28 : decode cX12_forgers 28 = .ok (.ireturn, 1) := by decide +kernel
set_option maxRecDepth 20000 in
theorem ggX12_struck_X1_allStruck : GoodIn wsX12_struck wsX1_allStruck := goodIn_r _ [7, 8, 9, 10, 11, 12, 13, 14, 6, 15, 16, 17, 18, 19, 20, 21, 22, 23, 24, 25, 26, 27, 28, 29, 30, 31, 32, 33, 34, 35, 63, 64] (by decide +kernel) (by decide +kernel)
set_option maxRecDepth 20000 in
theorem gX12_struck_X1_allStruck : GoodIn wsX12_struck (wsV RX12 318 RX1 yX1_allStruck wsX1_allStruck) := goodIn_app (goodIn_of _ (by decide +kernel)) ggX12_struck_X1_allStruck
theorem dX12_struck_0 : decode cX12_struck 0 = .ok (.aload_n 0, 1) := by decide +kernel
theorem dX12_struck_1 : decode cX12_struck 1 = .ok (.getfield 37, 3) := by decide +kernel
theorem dX12_struck_4 : decode cX12_struck 4 = .ok (.getfield 172, 3) := by decide +kernel
theorem dX12_struck_7 : decode cX12_struck 7 = .ok (.invokevirtual 318, 3) := by decide +kernel
theorem dX12_struck_10 : decode cX12_struck 10 = .ok (.ireturn, 1) := by decide +kernel
set_option maxRecDepth 20000 in
theorem ggX12_cheapest_X3_leastLook : GoodIn wsX12_cheapest wsX3_leastLook := goodIn_r _ [7, 8, 9, 10, 11, 12, 13, 14, 15, 16, 6, 17, 18, 19, 20, 21, 22, 23, 24, 25, 26, 27, 28, 29, 30, 31, 32, 33, 34, 35, 36, 37, 38, 39, 40, 41, 42, 43, 44, 72, 73, 74, 75, 76, 77] (by decide +kernel) (by decide +kernel)
set_option maxRecDepth 20000 in
theorem gX12_cheapest_X3_leastLook : GoodIn wsX12_cheapest (wsV RX12 324 RX3 yX3_leastLook wsX3_leastLook) := goodIn_app (goodIn_of _ (by decide +kernel)) ggX12_cheapest_X3_leastLook
theorem dX12_cheapest_0 : decode cX12_cheapest 0 = .ok (.iload_n 1, 1) := by decide +kernel
theorem dX12_cheapest_1 : decode cX12_cheapest 1 = .ok (.iconst 1, 1) := by decide +kernel
theorem dX12_cheapest_2 : decode cX12_cheapest 2 = .ok (.if_icmp .lt 9, 3) := by decide +kernel
theorem dX12_cheapest_5 : decode cX12_cheapest 5 = .ok (.iload_n 1, 1) := by decide +kernel
theorem dX12_cheapest_6 : decode cX12_cheapest 6 = .ok (.bipush 32, 2) := by decide +kernel
theorem dX12_cheapest_8 : decode cX12_cheapest 8 = .ok (.if_icmp .le 7, 3) := by decide +kernel
theorem dX12_cheapest_11 : decode cX12_cheapest 11 = .ok (.iconst (-1), 1) := by decide +kernel
theorem dX12_cheapest_12 : decode cX12_cheapest 12 = .ok (.goto 14, 3) := by decide +kernel
theorem dX12_cheapest_15 : decode cX12_cheapest 15 = .ok (.aload_n 0, 1) := by decide +kernel
theorem dX12_cheapest_16 : decode cX12_cheapest 16 = .ok (.getfield 37, 3) := by decide +kernel
theorem dX12_cheapest_19 : decode cX12_cheapest 19 = .ok (.getfield 142, 3) := by decide +kernel
theorem dX12_cheapest_22 : decode cX12_cheapest 22 = .ok (.iload_n 1, 1) := by decide +kernel
theorem dX12_cheapest_23 : decode cX12_cheapest 23 = .ok (.invokevirtual 324, 3) := by decide +kernel
theorem dX12_cheapest_26 : decode cX12_cheapest 26 = .ok (.ireturn, 1) := by decide +kernel
set_option maxRecDepth 20000 in
theorem ggX12_odds_X10_hasMan : GoodIn wsX12_odds wsX10_hasMan := goodIn_r _ [8, 9, 95, 96, 97, 98, 99, 100, 101, 102, 103] (by decide +kernel) (by decide +kernel)
set_option maxRecDepth 20000 in
theorem gX12_odds_X10_hasMan : GoodIn wsX12_odds (wsV RX12 162 RX10 yX10_hasMan wsX10_hasMan) := goodIn_app (goodIn_of _ (by decide +kernel)) ggX12_odds_X10_hasMan
theorem dX12_odds_0 : decode cX12_odds 0 = .ok (.aload_n 0, 1) := by decide +kernel
theorem dX12_odds_1 : decode cX12_odds 1 = .ok (.getfield 37, 3) := by decide +kernel
theorem dX12_odds_4 : decode cX12_odds 4 = .ok (.iload_n 1, 1) := by decide +kernel
theorem dX12_odds_5 : decode cX12_odds 5 = .ok (.invokevirtual 162, 3) := by decide +kernel
theorem dX12_odds_8 : decode cX12_odds 8 = .ok (.ifCond .eq 25, 3) := by decide +kernel
theorem dX12_odds_33 : decode cX12_odds 33 = .ok (.iconst (-1), 1) := by decide +kernel
theorem dX12_odds_34 : decode cX12_odds 34 = .ok (.ireturn, 1) := by decide +kernel
set_option maxRecDepth 20000 in
theorem ggX12_said_X8_isTold : GoodIn wsX12_said wsX8_isTold := goodIn_r _ [8, 9, 115, 116, 117, 118, 119, 120] (by decide +kernel) (by decide +kernel)
set_option maxRecDepth 20000 in
theorem gX12_said_X8_isTold : GoodIn wsX12_said (wsV RX12 346 RX8 yX8_isTold wsX8_isTold) := goodIn_app (goodIn_of _ (by decide +kernel)) ggX12_said_X8_isTold
theorem dX12_said_0 : decode cX12_said 0 = .ok (.iload_n 1, 1) := by decide +kernel
theorem dX12_said_1 : decode cX12_said 1 = .ok (.iconst (-1), 1) := by decide +kernel
theorem dX12_said_2 : decode cX12_said 2 = .ok (.if_icmp .lt 13, 3) := by decide +kernel
theorem dX12_said_5 : decode cX12_said 5 = .ok (.aload_n 0, 1) := by decide +kernel
theorem dX12_said_6 : decode cX12_said 6 = .ok (.getfield 47, 3) := by decide +kernel
theorem dX12_said_9 : decode cX12_said 9 = .ok (.invokevirtual 346, 3) := by decide +kernel
theorem dX12_said_12 : decode cX12_said 12 = .ok (.ifCond .ne 5, 3) := by decide +kernel
theorem dX12_said_15 : decode cX12_said 15 = .ok (.iconst (-1), 1) := by decide +kernel
theorem dX12_said_16 : decode cX12_said 16 = .ok (.ireturn, 1) := by decide +kernel
theorem inX12_feed_X12 : ∀ w ∈ wsX120, w ∈ wsX12_feed := by decide +kernel
theorem inX12_feed_X9 : ∀ w ∈ wsX90, w ∈ wsX12_feed := by decide +kernel
theorem inX12_end_X12 : ∀ w ∈ wsX120, w ∈ wsX12_end := by decide +kernel
theorem inX12_end_X9 : ∀ w ∈ wsX90, w ∈ wsX12_end := by decide +kernel
theorem inX12_fault_X12 : ∀ w ∈ wsX120, w ∈ wsX12_fault := by decide +kernel
theorem inX12_given_X12 : ∀ w ∈ wsX120, w ∈ wsX12_given := by decide +kernel
theorem inX12_cut_X12 : ∀ w ∈ wsX120, w ∈ wsX12_cut := by decide +kernel
theorem inX12_wood_X12 : ∀ w ∈ wsX120, w ∈ wsX12_wood := by decide +kernel
theorem inX12_rung_X12 : ∀ w ∈ wsX120, w ∈ wsX12_rung := by decide +kernel
theorem inX12_rung_X10 : ∀ w ∈ wsX100, w ∈ wsX12_rung := by decide +kernel
theorem inX12_man_X12 : ∀ w ∈ wsX120, w ∈ wsX12_man := by decide +kernel
theorem inX12_debt_X12 : ∀ w ∈ wsX120, w ∈ wsX12_debt := by decide +kernel
theorem inX12_price_X12 : ∀ w ∈ wsX120, w ∈ wsX12_price := by decide +kernel
theorem inX12_fire_X12 : ∀ w ∈ wsX120, w ∈ wsX12_fire := by decide +kernel
theorem inX12_odds_X12 : ∀ w ∈ wsX120, w ∈ wsX12_odds := by decide +kernel
theorem inX12_height_X12 : ∀ w ∈ wsX120, w ∈ wsX12_height := by decide +kernel
theorem inX12_height_X10 : ∀ w ∈ wsX100, w ∈ wsX12_height := by decide +kernel
theorem inX12_cheapest_X12 : ∀ w ∈ wsX120, w ∈ wsX12_cheapest := by decide +kernel
theorem inX12_cheapest_X10 : ∀ w ∈ wsX100, w ∈ wsX12_cheapest := by decide +kernel
theorem inX12_bear_X12 : ∀ w ∈ wsX120, w ∈ wsX12_bear := by decide +kernel
theorem inX12_bear_X10 : ∀ w ∈ wsX100, w ∈ wsX12_bear := by decide +kernel
theorem inX12_suspect_X12 : ∀ w ∈ wsX120, w ∈ wsX12_suspect := by decide +kernel
theorem inX12_suspect_X10 : ∀ w ∈ wsX100, w ∈ wsX12_suspect := by decide +kernel
theorem inX12_broke_X12 : ∀ w ∈ wsX120, w ∈ wsX12_broke := by decide +kernel
theorem inX12_bubbles_X12 : ∀ w ∈ wsX120, w ∈ wsX12_bubbles := by decide +kernel
theorem inX12_forgers_X12 : ∀ w ∈ wsX120, w ∈ wsX12_forgers := by decide +kernel
theorem inX12_forgers_X9 : ∀ w ∈ wsX90, w ∈ wsX12_forgers := by decide +kernel
theorem inX12_struck_X12 : ∀ w ∈ wsX120, w ∈ wsX12_struck := by decide +kernel
theorem inX12_struck_X10 : ∀ w ∈ wsX100, w ∈ wsX12_struck := by decide +kernel
theorem inX12_now_X12 : ∀ w ∈ wsX120, w ∈ wsX12_now := by decide +kernel
theorem inX12_now_X10 : ∀ w ∈ wsX100, w ∈ wsX12_now := by decide +kernel
theorem inX12_count_X12 : ∀ w ∈ wsX120, w ∈ wsX12_count := by decide +kernel
theorem inX12_count_X10 : ∀ w ∈ wsX100, w ∈ wsX12_count := by decide +kernel
theorem inX12_count_X3 : ∀ w ∈ wsX30, w ∈ wsX12_count := by decide +kernel
theorem inX12_count_X9 : ∀ w ∈ wsX90, w ∈ wsX12_count := by decide +kernel
theorem inX12_said_X12 : ∀ w ∈ wsX120, w ∈ wsX12_said := by decide +kernel
set_option maxHeartbeats 4000000 in
set_option maxRecDepth 100000 in
theorem cM_feed (l : Launch) (D : va_G) (k : Nat → ClassId) (rm0 : Nat) (e0 : Nat) (d0 : Nat) (v0 : Nat) (t0 : Nat) (n0 : Nat) (s0 : Nat) (z0 : Nat) (g0 : Nat) (h0 : Nat) (o0 : Nat) (j0 : Nat) (j1 : Nat) (j2 : Nat) (j3 : Nat) (e1 : Nat) (p0 : Int32) (p1 : Int32) (p2 : Int32) (p3 : Int32) (p4 : Int32) : g_Ci l yX12_feed wsX12_feed ({ frames := 1, cells := 0, slots := 0, locals := 22 }) D k g_E0 [.ref rm0, .int p0, .int p1, .int p2, .int p3, .int p4] [(rm0, .inr (10, [.ref e0, .ref d0, .ref v0, .ref t0, .ref n0, .ref s0, .ref z0, .ref g0, .ref h0, .ref o0, .ref j0, .ref j1, .ref j2, .ref j3, .int 0, .int (-1), .int (-1), .int (-1)])), (e0, .inr (7, [.ref e1, .int 0])), (e1, .inl (k 0, 940, .inl (fun _ => 0)))] 20 (fun u => [(rm0, .inr (10, [.ref e0, .ref d0, .ref v0, .ref t0, .ref n0, .ref s0, .ref z0, .ref g0, .ref h0, .ref o0, .ref j0, .ref j1, .ref j2, .ref j3, .int 0, .int (-1), .int (-1), .int (-1)])), (e0, .inr (7, [.ref e1, .int 20])), (e1, .inl (k 0, 940, .inl (upd (upd (upd (upd (upd (upd (upd (upd (upd (upd (upd (upd (upd (upd (upd (upd (upd (upd (upd (upd (fun _ => 0) 0 (by8 p0 24)) 1 (by8 p0 16)) 2 (by8 p0 8)) 3 (by8 p0 0)) 4 (by8 p1 24)) 5 (by8 p1 16)) 6 (by8 p1 8)) 7 (by8 p1 0)) 8 (by8 p2 24)) 9 (by8 p2 16)) 10 (by8 p2 8)) 11 (by8 p2 0)) 12 (by8 p3 24)) 13 (by8 p3 16)) 14 (by8 p3 8)) 15 (by8 p3 0)) 16 (by8 p4 24)) 17 (by8 p4 16)) 18 (by8 p4 8)) 19 (by8 p4 0))))]) 0 0 := by
  intro sz
  refine Met.ofW (cc := cX12_feed) (maxL := 6) (ret := (some .int)) (by decide) rfl ?_
  intro p e s m args below meth c s₁ B hml hv
  obtain ⟨rfl, hsz, hP, hK, hD0, hE⟩ := hv
  have hx := B.exec
  have hb := B.bytes
  have hr := B.returns
  have hts := atoms_spec (ws := wsX12_feed) B.pre
  have hown : s.vm.findClass RX12 = some m.cls := findClass_of_methodNamed B.named
  have hlocks := B.notSynchronized
  subst hsz
  have hD := hD0.self (sz := s.heap.size)
  generalize hAe : va_A [(rm0, .inr (10, [.ref e0, .ref d0, .ref v0, .ref t0, .ref n0, .ref s0, .ref z0, .ref g0, .ref h0, .ref o0, .ref j0, .ref j1, .ref j2, .ref j3, .int 0, .int (-1), .int (-1), .int (-1)])), (e0, .inr (7, [.ref e1, .int 0])), (e1, .inl (k 0, 940, .inl (fun _ => 0)))] s.heap.size = A at hD ⊢
  have hA : ∀ q : Nat, s.heap.size ≤ q → A q := fun q h => by rw [← hAe]; exact Or.inr h
  have hS : va_S A s.heap s.heap [] := va_S.rf
  have hP : va_P D vwCl [(rm0, .inr (10, [.ref e0, .ref d0, .ref v0, .ref t0, .ref n0, .ref s0, .ref z0, .ref g0, .ref h0, .ref o0, .ref j0, .ref j1, .ref j2, .ref j3, .int 0, .int (-1), .int (-1), .int (-1)])), (e0, .inr (7, [.ref e1, .int 0])), (e1, .inl (k 0, 940, .inl (fun _ => 0)))] s.heap := hP
  have hl := lv_entry ([.ref rm0, .int p0, .int p1, .int p2, .int p3, .int p4]) (n := 6) (Nat.le_of_ble_eq_true rfl)
  rw [lg_entry_eq]
  generalize (lg_sl ([.ref rm0, .int p0, .int p1, .int p2, .int p3, .int p4]) ++ List.replicate (6 - (lg_sl ([.ref rm0, .int p0, .int p1, .int p2, .int p3, .int p4])).length) Slot.unset).toArray = ls at hl ⊢
  have hl : lv_has ls 6 [(0, .ref rm0), (1, .int p0), (2, .int p1), (3, .int p2), (4, .int p3), (5, .int p4)] := hl
  refine lv_aload_n hx hb dX12_feed_0 rfl (lv_at hl 0 rfl) ?_
  refine va_get (D := D) (ci := 10) (v := .ref e0) (C := RX12) (T := TX12) (N := 18) hx hb hts inX12_feed_X12 hown hK hP 0 rfl rfl 0 (by decide) (hts (.fieldLink RX12 10 "RungMoney" "tape" "LRungMoney$Tape;") (by decide +kernel)) (fun _ h9 => h9) rfl dX12_feed_1 ?_
  refine g_iV (As := []) (rest := []) (wr := [(rm0, .inr (10, [.ref e0, .ref d0, .ref v0, .ref t0, .ref n0, .ref s0, .ref z0, .ref g0, .ref h0, .ref o0, .ref j0, .ref j1, .ref j2, .ref j3, .int 0, .int (-1), .int (-1), .int (-1)])), (e1, .inl (k 0, 940, .inl (fun _ => 0)))]) ⟨hx, hb, hml, hown, hts⟩ (cE_hasRoom l D k e0 e1) (cwV 0 hts gX12_feed_X9_hasRoom rfl rfl rfl (by decide +kernel) ⟨Nat.le_of_ble_eq_true rfl, Nat.le_of_ble_eq_true rfl⟩) g_E0_ok (fun _ _ _ => trivial) hK hP hD hS hA 1 7 rfl rfl rfl [1] [0, 2] rfl rfl (by decide) rfl hl.1 rfl (Nat.le_of_ble_eq_true rfl) dX12_feed_4 ⟨Nat.le_of_ble_eq_true rfl, Nat.le_of_ble_eq_true rfl⟩ (fun u1 H locs hP hD hS => ?_)
  have hP : va_P D vwCl [(rm0, .inr (10, [.ref e0, .ref d0, .ref v0, .ref t0, .ref n0, .ref s0, .ref z0, .ref g0, .ref h0, .ref o0, .ref j0, .ref j1, .ref j2, .ref j3, .int 0, .int (-1), .int (-1), .int (-1)])), (e1, .inl (k 0, 940, .inl (fun _ => 0))), (e0, .inr (7, [.ref e1, .int 0]))] H := hP
  have hD : va_D A [(rm0, .inr (10, [.ref e0, .ref d0, .ref v0, .ref t0, .ref n0, .ref s0, .ref z0, .ref g0, .ref h0, .ref o0, .ref j0, .ref j1, .ref j2, .ref j3, .int 0, .int (-1), .int (-1), .int (-1)])), (e1, .inl (k 0, 940, .inl (fun _ => 0))), (e0, .inr (7, [.ref e1, .int 0]))] := hD
  refine lv_if_ne (tgt := 12) hx hb dX12_feed_7 (by decide) (fun _ => ?_) (fun h9 => absurd h9 (by decide))
  refine lv_aload_n hx hb dX12_feed_12 rfl (lv_at hl 0 rfl) ?_
  refine va_get (D := D) (ci := 10) (v := .ref e0) (C := RX12) (T := TX12) (N := 18) hx hb hts inX12_feed_X12 hown hK hP 0 rfl rfl 0 (by decide) (hts (.fieldLink RX12 10 "RungMoney" "tape" "LRungMoney$Tape;") (by decide +kernel)) (fun _ h9 => h9) rfl dX12_feed_13 ?_
  refine lv_iload_n hx hb dX12_feed_16 rfl (lv_at hl 1 rfl) ?_
  refine g_vV (As := [.int p0]) (rest := []) (wr := [(rm0, .inr (10, [.ref e0, .ref d0, .ref v0, .ref t0, .ref n0, .ref s0, .ref z0, .ref g0, .ref h0, .ref o0, .ref j0, .ref j1, .ref j2, .ref j3, .int 0, .int (-1), .int (-1), .int (-1)]))]) ⟨hx, hb, hml, hown, hts⟩ (cE_add0 l D k e0 e1 (fun _ => 0) p0) (cwV 1 hts gX12_feed_X9_add rfl rfl rfl (by decide +kernel) ⟨Nat.le_of_ble_eq_true rfl, Nat.le_of_ble_eq_true rfl⟩) g_E0_ok (fun _ _ _ => trivial) hK hP hD hS hA 2 7 rfl rfl rfl [2, 1] [0] rfl rfl (by decide) rfl hl.1 rfl (Nat.le_of_ble_eq_true rfl) dX12_feed_17 ⟨Nat.le_of_ble_eq_true rfl, Nat.le_of_ble_eq_true rfl⟩ (fun u2 H locs hP hD hS => ?_)
  have hP : va_P D vwCl [(rm0, .inr (10, [.ref e0, .ref d0, .ref v0, .ref t0, .ref n0, .ref s0, .ref z0, .ref g0, .ref h0, .ref o0, .ref j0, .ref j1, .ref j2, .ref j3, .int 0, .int (-1), .int (-1), .int (-1)])), (e0, .inr (7, [.ref e1, .int 4])), (e1, .inl (k 0, 940, .inl (upd (upd (upd (upd (fun _ => 0) 0 (by8 p0 24)) 1 (by8 p0 16)) 2 (by8 p0 8)) 3 (by8 p0 0))))] H := hP
  have hD : va_D A [(rm0, .inr (10, [.ref e0, .ref d0, .ref v0, .ref t0, .ref n0, .ref s0, .ref z0, .ref g0, .ref h0, .ref o0, .ref j0, .ref j1, .ref j2, .ref j3, .int 0, .int (-1), .int (-1), .int (-1)])), (e0, .inr (7, [.ref e1, .int 4])), (e1, .inl (k 0, 940, .inl (upd (upd (upd (upd (fun _ => 0) 0 (by8 p0 24)) 1 (by8 p0 16)) 2 (by8 p0 8)) 3 (by8 p0 0))))] := hD
  refine lv_aload_n hx hb dX12_feed_20 rfl (lv_at hl 0 rfl) ?_
  refine va_get (D := D) (ci := 10) (v := .ref e0) (C := RX12) (T := TX12) (N := 18) hx hb hts inX12_feed_X12 hown hK hP 0 rfl rfl 0 (by decide) (hts (.fieldLink RX12 10 "RungMoney" "tape" "LRungMoney$Tape;") (by decide +kernel)) (fun _ h9 => h9) rfl dX12_feed_21 ?_
  refine lv_iload_n hx hb dX12_feed_24 rfl (lv_at hl 2 rfl) ?_
  refine g_vV (As := [.int p1]) (rest := []) (wr := [(rm0, .inr (10, [.ref e0, .ref d0, .ref v0, .ref t0, .ref n0, .ref s0, .ref z0, .ref g0, .ref h0, .ref o0, .ref j0, .ref j1, .ref j2, .ref j3, .int 0, .int (-1), .int (-1), .int (-1)]))]) ⟨hx, hb, hml, hown, hts⟩ (cE_add4 l D k e0 e1 (upd (upd (upd (upd (fun _ => 0) 0 (by8 p0 24)) 1 (by8 p0 16)) 2 (by8 p0 8)) 3 (by8 p0 0)) p1) (cwV 1 hts gX12_feed_X9_add rfl rfl rfl (by decide +kernel) ⟨Nat.le_of_ble_eq_true rfl, Nat.le_of_ble_eq_true rfl⟩) g_E0_ok (fun _ _ _ => trivial) hK hP hD hS hA 1 7 rfl rfl rfl [1, 2] [0] rfl rfl (by decide) rfl hl.1 rfl (Nat.le_of_ble_eq_true rfl) dX12_feed_25 ⟨Nat.le_of_ble_eq_true rfl, Nat.le_of_ble_eq_true rfl⟩ (fun u3 H locs hP hD hS => ?_)
  have hP : va_P D vwCl [(rm0, .inr (10, [.ref e0, .ref d0, .ref v0, .ref t0, .ref n0, .ref s0, .ref z0, .ref g0, .ref h0, .ref o0, .ref j0, .ref j1, .ref j2, .ref j3, .int 0, .int (-1), .int (-1), .int (-1)])), (e0, .inr (7, [.ref e1, .int 8])), (e1, .inl (k 0, 940, .inl (upd (upd (upd (upd (upd (upd (upd (upd (fun _ => 0) 0 (by8 p0 24)) 1 (by8 p0 16)) 2 (by8 p0 8)) 3 (by8 p0 0)) 4 (by8 p1 24)) 5 (by8 p1 16)) 6 (by8 p1 8)) 7 (by8 p1 0))))] H := hP
  have hD : va_D A [(rm0, .inr (10, [.ref e0, .ref d0, .ref v0, .ref t0, .ref n0, .ref s0, .ref z0, .ref g0, .ref h0, .ref o0, .ref j0, .ref j1, .ref j2, .ref j3, .int 0, .int (-1), .int (-1), .int (-1)])), (e0, .inr (7, [.ref e1, .int 8])), (e1, .inl (k 0, 940, .inl (upd (upd (upd (upd (upd (upd (upd (upd (fun _ => 0) 0 (by8 p0 24)) 1 (by8 p0 16)) 2 (by8 p0 8)) 3 (by8 p0 0)) 4 (by8 p1 24)) 5 (by8 p1 16)) 6 (by8 p1 8)) 7 (by8 p1 0))))] := hD
  refine lv_aload_n hx hb dX12_feed_28 rfl (lv_at hl 0 rfl) ?_
  refine va_get (D := D) (ci := 10) (v := .ref e0) (C := RX12) (T := TX12) (N := 18) hx hb hts inX12_feed_X12 hown hK hP 0 rfl rfl 0 (by decide) (hts (.fieldLink RX12 10 "RungMoney" "tape" "LRungMoney$Tape;") (by decide +kernel)) (fun _ h9 => h9) rfl dX12_feed_29 ?_
  refine lv_iload_n hx hb dX12_feed_32 rfl (lv_at hl 3 rfl) ?_
  refine g_vV (As := [.int p2]) (rest := []) (wr := [(rm0, .inr (10, [.ref e0, .ref d0, .ref v0, .ref t0, .ref n0, .ref s0, .ref z0, .ref g0, .ref h0, .ref o0, .ref j0, .ref j1, .ref j2, .ref j3, .int 0, .int (-1), .int (-1), .int (-1)]))]) ⟨hx, hb, hml, hown, hts⟩ (cE_add8 l D k e0 e1 (upd (upd (upd (upd (upd (upd (upd (upd (fun _ => 0) 0 (by8 p0 24)) 1 (by8 p0 16)) 2 (by8 p0 8)) 3 (by8 p0 0)) 4 (by8 p1 24)) 5 (by8 p1 16)) 6 (by8 p1 8)) 7 (by8 p1 0)) p2) (cwV 1 hts gX12_feed_X9_add rfl rfl rfl (by decide +kernel) ⟨Nat.le_of_ble_eq_true rfl, Nat.le_of_ble_eq_true rfl⟩) g_E0_ok (fun _ _ _ => trivial) hK hP hD hS hA 1 7 rfl rfl rfl [1, 2] [0] rfl rfl (by decide) rfl hl.1 rfl (Nat.le_of_ble_eq_true rfl) dX12_feed_33 ⟨Nat.le_of_ble_eq_true rfl, Nat.le_of_ble_eq_true rfl⟩ (fun u4 H locs hP hD hS => ?_)
  have hP : va_P D vwCl [(rm0, .inr (10, [.ref e0, .ref d0, .ref v0, .ref t0, .ref n0, .ref s0, .ref z0, .ref g0, .ref h0, .ref o0, .ref j0, .ref j1, .ref j2, .ref j3, .int 0, .int (-1), .int (-1), .int (-1)])), (e0, .inr (7, [.ref e1, .int 12])), (e1, .inl (k 0, 940, .inl (upd (upd (upd (upd (upd (upd (upd (upd (upd (upd (upd (upd (fun _ => 0) 0 (by8 p0 24)) 1 (by8 p0 16)) 2 (by8 p0 8)) 3 (by8 p0 0)) 4 (by8 p1 24)) 5 (by8 p1 16)) 6 (by8 p1 8)) 7 (by8 p1 0)) 8 (by8 p2 24)) 9 (by8 p2 16)) 10 (by8 p2 8)) 11 (by8 p2 0))))] H := hP
  have hD : va_D A [(rm0, .inr (10, [.ref e0, .ref d0, .ref v0, .ref t0, .ref n0, .ref s0, .ref z0, .ref g0, .ref h0, .ref o0, .ref j0, .ref j1, .ref j2, .ref j3, .int 0, .int (-1), .int (-1), .int (-1)])), (e0, .inr (7, [.ref e1, .int 12])), (e1, .inl (k 0, 940, .inl (upd (upd (upd (upd (upd (upd (upd (upd (upd (upd (upd (upd (fun _ => 0) 0 (by8 p0 24)) 1 (by8 p0 16)) 2 (by8 p0 8)) 3 (by8 p0 0)) 4 (by8 p1 24)) 5 (by8 p1 16)) 6 (by8 p1 8)) 7 (by8 p1 0)) 8 (by8 p2 24)) 9 (by8 p2 16)) 10 (by8 p2 8)) 11 (by8 p2 0))))] := hD
  refine lv_aload_n hx hb dX12_feed_36 rfl (lv_at hl 0 rfl) ?_
  refine va_get (D := D) (ci := 10) (v := .ref e0) (C := RX12) (T := TX12) (N := 18) hx hb hts inX12_feed_X12 hown hK hP 0 rfl rfl 0 (by decide) (hts (.fieldLink RX12 10 "RungMoney" "tape" "LRungMoney$Tape;") (by decide +kernel)) (fun _ h9 => h9) rfl dX12_feed_37 ?_
  refine lv_iload hx hb dX12_feed_40 (lv_at hl 4 rfl) ?_
  refine g_vV (As := [.int p3]) (rest := []) (wr := [(rm0, .inr (10, [.ref e0, .ref d0, .ref v0, .ref t0, .ref n0, .ref s0, .ref z0, .ref g0, .ref h0, .ref o0, .ref j0, .ref j1, .ref j2, .ref j3, .int 0, .int (-1), .int (-1), .int (-1)]))]) ⟨hx, hb, hml, hown, hts⟩ (cE_add12 l D k e0 e1 (upd (upd (upd (upd (upd (upd (upd (upd (upd (upd (upd (upd (fun _ => 0) 0 (by8 p0 24)) 1 (by8 p0 16)) 2 (by8 p0 8)) 3 (by8 p0 0)) 4 (by8 p1 24)) 5 (by8 p1 16)) 6 (by8 p1 8)) 7 (by8 p1 0)) 8 (by8 p2 24)) 9 (by8 p2 16)) 10 (by8 p2 8)) 11 (by8 p2 0)) p3) (cwV 1 hts gX12_feed_X9_add rfl rfl rfl (by decide +kernel) ⟨Nat.le_of_ble_eq_true rfl, Nat.le_of_ble_eq_true rfl⟩) g_E0_ok (fun _ _ _ => trivial) hK hP hD hS hA 1 7 rfl rfl rfl [1, 2] [0] rfl rfl (by decide) rfl hl.1 rfl (Nat.le_of_ble_eq_true rfl) dX12_feed_42 ⟨Nat.le_of_ble_eq_true rfl, Nat.le_of_ble_eq_true rfl⟩ (fun u5 H locs hP hD hS => ?_)
  have hP : va_P D vwCl [(rm0, .inr (10, [.ref e0, .ref d0, .ref v0, .ref t0, .ref n0, .ref s0, .ref z0, .ref g0, .ref h0, .ref o0, .ref j0, .ref j1, .ref j2, .ref j3, .int 0, .int (-1), .int (-1), .int (-1)])), (e0, .inr (7, [.ref e1, .int 16])), (e1, .inl (k 0, 940, .inl (upd (upd (upd (upd (upd (upd (upd (upd (upd (upd (upd (upd (upd (upd (upd (upd (fun _ => 0) 0 (by8 p0 24)) 1 (by8 p0 16)) 2 (by8 p0 8)) 3 (by8 p0 0)) 4 (by8 p1 24)) 5 (by8 p1 16)) 6 (by8 p1 8)) 7 (by8 p1 0)) 8 (by8 p2 24)) 9 (by8 p2 16)) 10 (by8 p2 8)) 11 (by8 p2 0)) 12 (by8 p3 24)) 13 (by8 p3 16)) 14 (by8 p3 8)) 15 (by8 p3 0))))] H := hP
  have hD : va_D A [(rm0, .inr (10, [.ref e0, .ref d0, .ref v0, .ref t0, .ref n0, .ref s0, .ref z0, .ref g0, .ref h0, .ref o0, .ref j0, .ref j1, .ref j2, .ref j3, .int 0, .int (-1), .int (-1), .int (-1)])), (e0, .inr (7, [.ref e1, .int 16])), (e1, .inl (k 0, 940, .inl (upd (upd (upd (upd (upd (upd (upd (upd (upd (upd (upd (upd (upd (upd (upd (upd (fun _ => 0) 0 (by8 p0 24)) 1 (by8 p0 16)) 2 (by8 p0 8)) 3 (by8 p0 0)) 4 (by8 p1 24)) 5 (by8 p1 16)) 6 (by8 p1 8)) 7 (by8 p1 0)) 8 (by8 p2 24)) 9 (by8 p2 16)) 10 (by8 p2 8)) 11 (by8 p2 0)) 12 (by8 p3 24)) 13 (by8 p3 16)) 14 (by8 p3 8)) 15 (by8 p3 0))))] := hD
  refine lv_aload_n hx hb dX12_feed_45 rfl (lv_at hl 0 rfl) ?_
  refine va_get (D := D) (ci := 10) (v := .ref e0) (C := RX12) (T := TX12) (N := 18) hx hb hts inX12_feed_X12 hown hK hP 0 rfl rfl 0 (by decide) (hts (.fieldLink RX12 10 "RungMoney" "tape" "LRungMoney$Tape;") (by decide +kernel)) (fun _ h9 => h9) rfl dX12_feed_46 ?_
  refine lv_iload hx hb dX12_feed_49 (lv_at hl 5 rfl) ?_
  refine g_vV (As := [.int p4]) (rest := []) (wr := [(rm0, .inr (10, [.ref e0, .ref d0, .ref v0, .ref t0, .ref n0, .ref s0, .ref z0, .ref g0, .ref h0, .ref o0, .ref j0, .ref j1, .ref j2, .ref j3, .int 0, .int (-1), .int (-1), .int (-1)]))]) ⟨hx, hb, hml, hown, hts⟩ (cE_add16 l D k e0 e1 (upd (upd (upd (upd (upd (upd (upd (upd (upd (upd (upd (upd (upd (upd (upd (upd (fun _ => 0) 0 (by8 p0 24)) 1 (by8 p0 16)) 2 (by8 p0 8)) 3 (by8 p0 0)) 4 (by8 p1 24)) 5 (by8 p1 16)) 6 (by8 p1 8)) 7 (by8 p1 0)) 8 (by8 p2 24)) 9 (by8 p2 16)) 10 (by8 p2 8)) 11 (by8 p2 0)) 12 (by8 p3 24)) 13 (by8 p3 16)) 14 (by8 p3 8)) 15 (by8 p3 0)) p4) (cwV 1 hts gX12_feed_X9_add rfl rfl rfl (by decide +kernel) ⟨Nat.le_of_ble_eq_true rfl, Nat.le_of_ble_eq_true rfl⟩) g_E0_ok (fun _ _ _ => trivial) hK hP hD hS hA 1 7 rfl rfl rfl [1, 2] [0] rfl rfl (by decide) rfl hl.1 rfl (Nat.le_of_ble_eq_true rfl) dX12_feed_51 ⟨Nat.le_of_ble_eq_true rfl, Nat.le_of_ble_eq_true rfl⟩ (fun u6 H locs hP hD hS => ?_)
  have hP : va_P D vwCl [(rm0, .inr (10, [.ref e0, .ref d0, .ref v0, .ref t0, .ref n0, .ref s0, .ref z0, .ref g0, .ref h0, .ref o0, .ref j0, .ref j1, .ref j2, .ref j3, .int 0, .int (-1), .int (-1), .int (-1)])), (e0, .inr (7, [.ref e1, .int 20])), (e1, .inl (k 0, 940, .inl (upd (upd (upd (upd (upd (upd (upd (upd (upd (upd (upd (upd (upd (upd (upd (upd (upd (upd (upd (upd (fun _ => 0) 0 (by8 p0 24)) 1 (by8 p0 16)) 2 (by8 p0 8)) 3 (by8 p0 0)) 4 (by8 p1 24)) 5 (by8 p1 16)) 6 (by8 p1 8)) 7 (by8 p1 0)) 8 (by8 p2 24)) 9 (by8 p2 16)) 10 (by8 p2 8)) 11 (by8 p2 0)) 12 (by8 p3 24)) 13 (by8 p3 16)) 14 (by8 p3 8)) 15 (by8 p3 0)) 16 (by8 p4 24)) 17 (by8 p4 16)) 18 (by8 p4 8)) 19 (by8 p4 0))))] H := hP
  have hD : va_D A [(rm0, .inr (10, [.ref e0, .ref d0, .ref v0, .ref t0, .ref n0, .ref s0, .ref z0, .ref g0, .ref h0, .ref o0, .ref j0, .ref j1, .ref j2, .ref j3, .int 0, .int (-1), .int (-1), .int (-1)])), (e0, .inr (7, [.ref e1, .int 20])), (e1, .inl (k 0, 940, .inl (upd (upd (upd (upd (upd (upd (upd (upd (upd (upd (upd (upd (upd (upd (upd (upd (upd (upd (upd (upd (fun _ => 0) 0 (by8 p0 24)) 1 (by8 p0 16)) 2 (by8 p0 8)) 3 (by8 p0 0)) 4 (by8 p1 24)) 5 (by8 p1 16)) 6 (by8 p1 8)) 7 (by8 p1 0)) 8 (by8 p2 24)) 9 (by8 p2 16)) 10 (by8 p2 8)) 11 (by8 p2 0)) 12 (by8 p3 24)) 13 (by8 p3 16)) 14 (by8 p3 8)) 15 (by8 p3 0)) 16 (by8 p4 24)) 17 (by8 p4 16)) 18 (by8 p4 8)) 19 (by8 p4 0))))] := hD
  refine lv_aload_n hx hb dX12_feed_54 rfl (lv_at hl 0 rfl) ?_
  refine va_get (D := D) (ci := 10) (v := .ref e0) (C := RX12) (T := TX12) (N := 18) hx hb hts inX12_feed_X12 hown hK hP 0 rfl rfl 0 (by decide) (hts (.fieldLink RX12 10 "RungMoney" "tape" "LRungMoney$Tape;") (by decide +kernel)) (fun _ h9 => h9) rfl dX12_feed_55 ?_
  refine va_get (D := D) (ci := 7) (v := .int 20) (C := RX9) (T := TX9) (N := 2) hx hb hts inX12_feed_X9 hown hK hP 1 rfl rfl 1 (by decide) (hts (.fieldLink RX12 115 "RungMoney$Tape" "size" "I") (by decide +kernel)) (fun _ h9 => h9) rfl dX12_feed_58 ?_
  have hP := hP.sub (ws' := [(rm0, .inr (10, [.ref e0, .ref d0, .ref v0, .ref t0, .ref n0, .ref s0, .ref z0, .ref g0, .ref h0, .ref o0, .ref j0, .ref j1, .ref j2, .ref j3, .int 0, .int (-1), .int (-1), .int (-1)])), (e0, .inr (7, [.ref e1, .int 20])), (e1, .inl (k 0, 940, .inl (upd (upd (upd (upd (upd (upd (upd (upd (upd (upd (upd (upd (upd (upd (upd (upd (upd (upd (upd (upd (fun _ => 0) 0 (by8 p0 24)) 1 (by8 p0 16)) 2 (by8 p0 8)) 3 (by8 p0 0)) 4 (by8 p1 24)) 5 (by8 p1 16)) 6 (by8 p1 8)) 7 (by8 p1 0)) 8 (by8 p2 24)) 9 (by8 p2 16)) 10 (by8 p2 8)) 11 (by8 p2 0)) 12 (by8 p3 24)) 13 (by8 p3 16)) 14 (by8 p3 8)) 15 (by8 p3 0)) 16 (by8 p4 24)) 17 (by8 p4 16)) 18 (by8 p4 8)) 19 (by8 p4 0))))]) [0, 1, 2] rfl
  have hD := hD.sub (ws' := [(rm0, .inr (10, [.ref e0, .ref d0, .ref v0, .ref t0, .ref n0, .ref s0, .ref z0, .ref g0, .ref h0, .ref o0, .ref j0, .ref j1, .ref j2, .ref j3, .int 0, .int (-1), .int (-1), .int (-1)])), (e0, .inr (7, [.ref e1, .int 20])), (e1, .inl (k 0, 940, .inl (upd (upd (upd (upd (upd (upd (upd (upd (upd (upd (upd (upd (upd (upd (upd (upd (upd (upd (upd (upd (fun _ => 0) 0 (by8 p0 24)) 1 (by8 p0 16)) 2 (by8 p0 8)) 3 (by8 p0 0)) 4 (by8 p1 24)) 5 (by8 p1 16)) 6 (by8 p1 8)) 7 (by8 p1 0)) 8 (by8 p2 24)) 9 (by8 p2 16)) 10 (by8 p2 8)) 11 (by8 p2 0)) 12 (by8 p3 24)) 13 (by8 p3 16)) 14 (by8 p3 8)) 15 (by8 p3 0)) 16 (by8 p4 24)) 17 (by8 p4 16)) 18 (by8 p4 8)) 19 (by8 p4 0))))]) [0, 1, 2] (by decide) rfl
  exact g_iret hx hb hr rfl hlocks hK (fun _ => 0) hP hD hS rfl dX12_feed_61 ⟨Nat.le_of_ble_eq_true rfl, Nat.le_of_ble_eq_true rfl⟩
set_option maxHeartbeats 4000000 in
set_option maxRecDepth 100000 in
theorem cM_end0 (l : Launch) (D : va_G) (k : Nat → ClassId) (rm0 : Nat) (e0 : Nat) (d0 : Nat) (v0 : Nat) (t0 : Nat) (n0 : Nat) (s0 : Nat) (z0 : Nat) (g0 : Nat) (h0 : Nat) (o0 : Nat) (j0 : Nat) (j1 : Nat) (j2 : Nat) (j3 : Nat) (e1 : Nat) : g_Ci l yX12_end wsX12_end ({ frames := 0, cells := 0, slots := 0, locals := 0 }) D k g_E0 [.ref rm0, .int 0] [(rm0, .inr (10, [.ref e0, .ref d0, .ref v0, .ref t0, .ref n0, .ref s0, .ref z0, .ref g0, .ref h0, .ref o0, .ref j0, .ref j1, .ref j2, .ref j3, .int 0, .int (-1), .int (-1), .int (-1)])), (e0, .inr (7, [.ref e1, .int 0]))] 1 (fun u => [(rm0, .inr (10, [.ref e0, .ref d0, .ref v0, .ref t0, .ref n0, .ref s0, .ref z0, .ref g0, .ref h0, .ref o0, .ref j0, .ref j1, .ref j2, .ref j3, .int 0, .int (-1), .int (-1), .int (-1)])), (e0, .inr (7, [.ref e1, .int 0]))]) 0 0 := by
  intro sz
  refine Met.ofW (cc := cX12_end) (maxL := 2) (ret := (some .boolean)) (by decide) rfl ?_
  intro p e s m args below meth c s₁ B hml hv
  obtain ⟨rfl, hsz, hP, hK, hD0, hE⟩ := hv
  have hx := B.exec
  have hb := B.bytes
  have hr := B.returns
  have hts := atoms_spec (ws := wsX12_end) B.pre
  have hown : s.vm.findClass RX12 = some m.cls := findClass_of_methodNamed B.named
  have hlocks := B.notSynchronized
  subst hsz
  have hD := hD0.self (sz := s.heap.size)
  generalize hAe : va_A [(rm0, .inr (10, [.ref e0, .ref d0, .ref v0, .ref t0, .ref n0, .ref s0, .ref z0, .ref g0, .ref h0, .ref o0, .ref j0, .ref j1, .ref j2, .ref j3, .int 0, .int (-1), .int (-1), .int (-1)])), (e0, .inr (7, [.ref e1, .int 0]))] s.heap.size = A at hD ⊢
  have hA : ∀ q : Nat, s.heap.size ≤ q → A q := fun q h => by rw [← hAe]; exact Or.inr h
  have hS : va_S A s.heap s.heap [] := va_S.rf
  have hP : va_P D vwCl [(rm0, .inr (10, [.ref e0, .ref d0, .ref v0, .ref t0, .ref n0, .ref s0, .ref z0, .ref g0, .ref h0, .ref o0, .ref j0, .ref j1, .ref j2, .ref j3, .int 0, .int (-1), .int (-1), .int (-1)])), (e0, .inr (7, [.ref e1, .int 0]))] s.heap := hP
  have hl := lv_entry ([.ref rm0, .int 0]) (n := 2) (Nat.le_of_ble_eq_true rfl)
  rw [lg_entry_eq]
  generalize (lg_sl ([.ref rm0, .int 0]) ++ List.replicate (2 - (lg_sl ([.ref rm0, .int 0])).length) Slot.unset).toArray = ls at hl ⊢
  have hl : lv_has ls 2 [(0, .ref rm0), (1, .int 0)] := hl
  refine lv_iload_n hx hb dX12_end_0 rfl (lv_at hl 1 rfl) ?_
  refine lv_if_lt (tgt := 15) hx hb dX12_end_1 (by decide) (fun h9 => absurd h9 (by decide)) (fun _ => ?_)
  refine lv_iload_n hx hb dX12_end_4 rfl (lv_at hl 1 rfl) ?_
  refine lv_aload_n hx hb dX12_end_5 rfl (lv_at hl 0 rfl) ?_
  refine va_get (D := D) (ci := 10) (v := .ref e0) (C := RX12) (T := TX12) (N := 18) hx hb hts inX12_end_X12 hown hK hP 0 rfl rfl 0 (by decide) (hts (.fieldLink RX12 10 "RungMoney" "tape" "LRungMoney$Tape;") (by decide +kernel)) (fun _ h9 => h9) rfl dX12_end_6 ?_
  refine va_get (D := D) (ci := 7) (v := .int 0) (C := RX9) (T := TX9) (N := 2) hx hb hts inX12_end_X9 hown hK hP 1 rfl rfl 1 (by decide) (hts (.fieldLink RX12 115 "RungMoney$Tape" "size" "I") (by decide +kernel)) (fun _ h9 => h9) rfl dX12_end_9 ?_
  refine lv_icmp_le (tgt := 17) hx hb dX12_end_12 (by decide) (fun _ => ?_) (fun h9 => absurd (by decide) h9)
  refine lv_aload_n hx hb dX12_end_17 rfl (lv_at hl 0 rfl) ?_
  refine va_get (D := D) (ci := 10) (v := .ref e0) (C := RX12) (T := TX12) (N := 18) hx hb hts inX12_end_X12 hown hK hP 0 rfl rfl 0 (by decide) (hts (.fieldLink RX12 10 "RungMoney" "tape" "LRungMoney$Tape;") (by decide +kernel)) (fun _ h9 => h9) rfl dX12_end_18 ?_
  refine lv_iload_n hx hb dX12_end_21 rfl (lv_at hl 1 rfl) ?_
  refine va_put (D := D) (ci := 7) (v := .int 0) (ty := .int) (C := RX9) (T := TX9) (N := 2) hx hb hts inX12_end_X9 tyX9 tyX9_ok nmX9 hown hK hP hD hS 1 rfl rfl 1 (by decide) (hts (.fieldLink RX12 115 "RungMoney$Tape" "size" "I") (by decide +kernel)) (fun _ h9 => h9) rfl (by decide +kernel) rfl rfl (Nat.le_of_ble_eq_true rfl) dX12_end_22 (fun H locs hP hD hS => ?_)
  have hP : va_P D vwCl [(rm0, .inr (10, [.ref e0, .ref d0, .ref v0, .ref t0, .ref n0, .ref s0, .ref z0, .ref g0, .ref h0, .ref o0, .ref j0, .ref j1, .ref j2, .ref j3, .int 0, .int (-1), .int (-1), .int (-1)])), (e0, .inr (7, [.ref e1, .int 0]))] H := hP
  have hD : va_D A [(rm0, .inr (10, [.ref e0, .ref d0, .ref v0, .ref t0, .ref n0, .ref s0, .ref z0, .ref g0, .ref h0, .ref o0, .ref j0, .ref j1, .ref j2, .ref j3, .int 0, .int (-1), .int (-1), .int (-1)])), (e0, .inr (7, [.ref e1, .int 0]))] := hD
  refine lv_iconst (v := 1) hx hb dX12_end_25 (by decide) ?_
  have hP := hP.sub (ws' := [(rm0, .inr (10, [.ref e0, .ref d0, .ref v0, .ref t0, .ref n0, .ref s0, .ref z0, .ref g0, .ref h0, .ref o0, .ref j0, .ref j1, .ref j2, .ref j3, .int 0, .int (-1), .int (-1), .int (-1)])), (e0, .inr (7, [.ref e1, .int 0]))]) [0, 1] rfl
  have hD := hD.sub (ws' := [(rm0, .inr (10, [.ref e0, .ref d0, .ref v0, .ref t0, .ref n0, .ref s0, .ref z0, .ref g0, .ref h0, .ref o0, .ref j0, .ref j1, .ref j2, .ref j3, .int 0, .int (-1), .int (-1), .int (-1)])), (e0, .inr (7, [.ref e1, .int 0]))]) [0, 1] (by decide) rfl
  exact g_iret hx hb hr rfl hlocks hK (fun _ => 0) hP hD hS rfl dX12_end_26 ⟨Nat.le_of_ble_eq_true rfl, Nat.le_of_ble_eq_true rfl⟩
set_option maxHeartbeats 4000000 in
set_option maxRecDepth 100000 in
theorem cM_end1 (l : Launch) (D : va_G) (k : Nat → ClassId) (rm0 : Nat) (e0 : Nat) (d0 : Nat) (v0 : Nat) (t0 : Nat) (n0 : Nat) (s0 : Nat) (z0 : Nat) (g0 : Nat) (h0 : Nat) (o0 : Nat) (j0 : Nat) (j1 : Nat) (j2 : Nat) (j3 : Nat) (e1 : Nat) (p0 : Int32) (hp : ¬ p0 = 0) : g_Ci l yX12_end wsX12_end ({ frames := 0, cells := 0, slots := 0, locals := 0 }) D k g_E0 [.ref rm0, .int p0] [(rm0, .inr (10, [.ref e0, .ref d0, .ref v0, .ref t0, .ref n0, .ref s0, .ref z0, .ref g0, .ref h0, .ref o0, .ref j0, .ref j1, .ref j2, .ref j3, .int 0, .int (-1), .int (-1), .int (-1)])), (e0, .inr (7, [.ref e1, .int 0]))] 0 (fun u => [(rm0, .inr (10, [.ref e0, .ref d0, .ref v0, .ref t0, .ref n0, .ref s0, .ref z0, .ref g0, .ref h0, .ref o0, .ref j0, .ref j1, .ref j2, .ref j3, .int 0, .int (-1), .int (-1), .int (-1)])), (e0, .inr (7, [.ref e1, .int 0]))]) 0 0 := by
  intro sz
  refine Met.ofW (cc := cX12_end) (maxL := 2) (ret := (some .boolean)) (by decide) rfl ?_
  intro p e s m args below meth c s₁ B hml hv
  obtain ⟨rfl, hsz, hP, hK, hD0, hE⟩ := hv
  have hx := B.exec
  have hb := B.bytes
  have hr := B.returns
  have hts := atoms_spec (ws := wsX12_end) B.pre
  have hown : s.vm.findClass RX12 = some m.cls := findClass_of_methodNamed B.named
  have hlocks := B.notSynchronized
  subst hsz
  have hD := hD0.self (sz := s.heap.size)
  generalize hAe : va_A [(rm0, .inr (10, [.ref e0, .ref d0, .ref v0, .ref t0, .ref n0, .ref s0, .ref z0, .ref g0, .ref h0, .ref o0, .ref j0, .ref j1, .ref j2, .ref j3, .int 0, .int (-1), .int (-1), .int (-1)])), (e0, .inr (7, [.ref e1, .int 0]))] s.heap.size = A at hD ⊢
  have hA : ∀ q : Nat, s.heap.size ≤ q → A q := fun q h => by rw [← hAe]; exact Or.inr h
  have hS : va_S A s.heap s.heap [] := va_S.rf
  have hP : va_P D vwCl [(rm0, .inr (10, [.ref e0, .ref d0, .ref v0, .ref t0, .ref n0, .ref s0, .ref z0, .ref g0, .ref h0, .ref o0, .ref j0, .ref j1, .ref j2, .ref j3, .int 0, .int (-1), .int (-1), .int (-1)])), (e0, .inr (7, [.ref e1, .int 0]))] s.heap := hP
  have hl := lv_entry ([.ref rm0, .int p0]) (n := 2) (Nat.le_of_ble_eq_true rfl)
  rw [lg_entry_eq]
  generalize (lg_sl ([.ref rm0, .int p0]) ++ List.replicate (2 - (lg_sl ([.ref rm0, .int p0])).length) Slot.unset).toArray = ls at hl ⊢
  have hl : lv_has ls 2 [(0, .ref rm0), (1, .int p0)] := hl
  refine lv_iload_n hx hb dX12_end_0 rfl (lv_at hl 1 rfl) ?_
  refine lv_if_lt (tgt := 15) hx hb dX12_end_1 (by decide) (fun c1 => ?_) (fun c1 => ?_)
  · refine lv_iconst (v := 0) hx hb dX12_end_15 (by decide) ?_
    have hP := hP.sub (ws' := [(rm0, .inr (10, [.ref e0, .ref d0, .ref v0, .ref t0, .ref n0, .ref s0, .ref z0, .ref g0, .ref h0, .ref o0, .ref j0, .ref j1, .ref j2, .ref j3, .int 0, .int (-1), .int (-1), .int (-1)])), (e0, .inr (7, [.ref e1, .int 0]))]) [0, 1] rfl
    have hD := hD.sub (ws' := [(rm0, .inr (10, [.ref e0, .ref d0, .ref v0, .ref t0, .ref n0, .ref s0, .ref z0, .ref g0, .ref h0, .ref o0, .ref j0, .ref j1, .ref j2, .ref j3, .int 0, .int (-1), .int (-1), .int (-1)])), (e0, .inr (7, [.ref e1, .int 0]))]) [0, 1] (by decide) rfl
    exact g_iret hx hb hr rfl hlocks hK (fun _ => 0) hP hD hS rfl dX12_end_16 ⟨Nat.le_of_ble_eq_true rfl, Nat.le_of_ble_eq_true rfl⟩
  · refine lv_iload_n hx hb dX12_end_4 rfl (lv_at hl 1 rfl) ?_
    refine lv_aload_n hx hb dX12_end_5 rfl (lv_at hl 0 rfl) ?_
    refine va_get (D := D) (ci := 10) (v := .ref e0) (C := RX12) (T := TX12) (N := 18) hx hb hts inX12_end_X12 hown hK hP 0 rfl rfl 0 (by decide) (hts (.fieldLink RX12 10 "RungMoney" "tape" "LRungMoney$Tape;") (by decide +kernel)) (fun _ h9 => h9) rfl dX12_end_6 ?_
    refine va_get (D := D) (ci := 7) (v := .int 0) (C := RX9) (T := TX9) (N := 2) hx hb hts inX12_end_X9 hown hK hP 1 rfl rfl 1 (by decide) (hts (.fieldLink RX12 115 "RungMoney$Tape" "size" "I") (by decide +kernel)) (fun _ h9 => h9) rfl dX12_end_9 ?_
    refine lv_icmp_le (tgt := 17) hx hb dX12_end_12 (by decide) (fun c2 => False.elim (by simp only [fa_lt, fa_le, fa_eq, t_0] at hp c1 c2; omega)) (fun _ => ?_)
    refine lv_iconst (v := 0) hx hb dX12_end_15 (by decide) ?_
    have hP := hP.sub (ws' := [(rm0, .inr (10, [.ref e0, .ref d0, .ref v0, .ref t0, .ref n0, .ref s0, .ref z0, .ref g0, .ref h0, .ref o0, .ref j0, .ref j1, .ref j2, .ref j3, .int 0, .int (-1), .int (-1), .int (-1)])), (e0, .inr (7, [.ref e1, .int 0]))]) [0, 1] rfl
    have hD := hD.sub (ws' := [(rm0, .inr (10, [.ref e0, .ref d0, .ref v0, .ref t0, .ref n0, .ref s0, .ref z0, .ref g0, .ref h0, .ref o0, .ref j0, .ref j1, .ref j2, .ref j3, .int 0, .int (-1), .int (-1), .int (-1)])), (e0, .inr (7, [.ref e1, .int 0]))]) [0, 1] (by decide) rfl
    exact g_iret hx hb hr rfl hlocks hK (fun _ => 0) hP hD hS rfl dX12_end_16 ⟨Nat.le_of_ble_eq_true rfl, Nat.le_of_ble_eq_true rfl⟩
set_option maxHeartbeats 4000000 in
set_option maxRecDepth 100000 in
theorem cM_fault (l : Launch) (D : va_G) (k : Nat → ClassId) (rm0 : Nat) (e0 : Nat) (d0 : Nat) (v0 : Nat) (t0 : Nat) (n0 : Nat) (s0 : Nat) (z0 : Nat) (g0 : Nat) (h0 : Nat) (o0 : Nat) (j0 : Nat) (j1 : Nat) (j2 : Nat) (j3 : Nat) : g_Ci l yX12_fault wsX12_fault ({ frames := 0, cells := 0, slots := 0, locals := 0 }) D k g_E0 [.ref rm0] [(rm0, .inr (10, [.ref e0, .ref d0, .ref v0, .ref t0, .ref n0, .ref s0, .ref z0, .ref g0, .ref h0, .ref o0, .ref j0, .ref j1, .ref j2, .ref j3, .int 0, .int (-1), .int (-1), .int (-1)]))] 0 (fun u => [(rm0, .inr (10, [.ref e0, .ref d0, .ref v0, .ref t0, .ref n0, .ref s0, .ref z0, .ref g0, .ref h0, .ref o0, .ref j0, .ref j1, .ref j2, .ref j3, .int 0, .int (-1), .int (-1), .int (-1)]))]) 0 0 := by
  intro sz
  refine Met.ofW (cc := cX12_fault) (maxL := 1) (ret := (some .int)) (by decide) rfl ?_
  intro p e s m args below meth c s₁ B hml hv
  obtain ⟨rfl, hsz, hP, hK, hD0, hE⟩ := hv
  have hx := B.exec
  have hb := B.bytes
  have hr := B.returns
  have hts := atoms_spec (ws := wsX12_fault) B.pre
  have hown : s.vm.findClass RX12 = some m.cls := findClass_of_methodNamed B.named
  have hlocks := B.notSynchronized
  subst hsz
  have hD := hD0.self (sz := s.heap.size)
  generalize hAe : va_A [(rm0, .inr (10, [.ref e0, .ref d0, .ref v0, .ref t0, .ref n0, .ref s0, .ref z0, .ref g0, .ref h0, .ref o0, .ref j0, .ref j1, .ref j2, .ref j3, .int 0, .int (-1), .int (-1), .int (-1)]))] s.heap.size = A at hD ⊢
  have hA : ∀ q : Nat, s.heap.size ≤ q → A q := fun q h => by rw [← hAe]; exact Or.inr h
  have hS : va_S A s.heap s.heap [] := va_S.rf
  have hP : va_P D vwCl [(rm0, .inr (10, [.ref e0, .ref d0, .ref v0, .ref t0, .ref n0, .ref s0, .ref z0, .ref g0, .ref h0, .ref o0, .ref j0, .ref j1, .ref j2, .ref j3, .int 0, .int (-1), .int (-1), .int (-1)]))] s.heap := hP
  have hl := lv_entry ([.ref rm0]) (n := 1) (Nat.le_of_ble_eq_true rfl)
  rw [lg_entry_eq]
  generalize (lg_sl ([.ref rm0]) ++ List.replicate (1 - (lg_sl ([.ref rm0])).length) Slot.unset).toArray = ls at hl ⊢
  have hl : lv_has ls 1 [(0, .ref rm0)] := hl
  refine lv_aload_n hx hb dX12_fault_0 rfl (lv_at hl 0 rfl) ?_
  refine va_get (D := D) (ci := 10) (v := .int 0) (C := RX12) (T := TX12) (N := 18) hx hb hts inX12_fault_X12 hown hK hP 0 rfl rfl 14 (by decide) (hts (.fieldLink RX12 125 "RungMoney" "faultKind" "I") (by decide +kernel)) (fun _ h9 => h9) rfl dX12_fault_1 ?_
  have hP := hP.sub (ws' := [(rm0, .inr (10, [.ref e0, .ref d0, .ref v0, .ref t0, .ref n0, .ref s0, .ref z0, .ref g0, .ref h0, .ref o0, .ref j0, .ref j1, .ref j2, .ref j3, .int 0, .int (-1), .int (-1), .int (-1)]))]) [0] rfl
  have hD := hD.sub (ws' := [(rm0, .inr (10, [.ref e0, .ref d0, .ref v0, .ref t0, .ref n0, .ref s0, .ref z0, .ref g0, .ref h0, .ref o0, .ref j0, .ref j1, .ref j2, .ref j3, .int 0, .int (-1), .int (-1), .int (-1)]))]) [0] (by decide) rfl
  exact g_iret hx hb hr rfl hlocks hK (fun _ => 0) hP hD hS rfl dX12_fault_4 ⟨Nat.le_of_ble_eq_true rfl, Nat.le_of_ble_eq_true rfl⟩
set_option maxHeartbeats 4000000 in
set_option maxRecDepth 100000 in
theorem cM_given (l : Launch) (D : va_G) (k : Nat → ClassId) (rm0 : Nat) (e0 : Nat) (d0 : Nat) (v0 : Nat) (t0 : Nat) (n0 : Nat) (s0 : Nat) (z0 : Nat) (g0 : Nat) (h0 : Nat) (o0 : Nat) (j0 : Nat) (j1 : Nat) (j2 : Nat) (j3 : Nat) : g_Ci l yX12_given wsX12_given ({ frames := 0, cells := 0, slots := 0, locals := 0 }) D k g_E0 [.ref rm0] [(rm0, .inr (10, [.ref e0, .ref d0, .ref v0, .ref t0, .ref n0, .ref s0, .ref z0, .ref g0, .ref h0, .ref o0, .ref j0, .ref j1, .ref j2, .ref j3, .int 0, .int (-1), .int (-1), .int (-1)]))] (-1) (fun u => [(rm0, .inr (10, [.ref e0, .ref d0, .ref v0, .ref t0, .ref n0, .ref s0, .ref z0, .ref g0, .ref h0, .ref o0, .ref j0, .ref j1, .ref j2, .ref j3, .int 0, .int (-1), .int (-1), .int (-1)]))]) 0 0 := by
  intro sz
  refine Met.ofW (cc := cX12_given) (maxL := 1) (ret := (some .int)) (by decide) rfl ?_
  intro p e s m args below meth c s₁ B hml hv
  obtain ⟨rfl, hsz, hP, hK, hD0, hE⟩ := hv
  have hx := B.exec
  have hb := B.bytes
  have hr := B.returns
  have hts := atoms_spec (ws := wsX12_given) B.pre
  have hown : s.vm.findClass RX12 = some m.cls := findClass_of_methodNamed B.named
  have hlocks := B.notSynchronized
  subst hsz
  have hD := hD0.self (sz := s.heap.size)
  generalize hAe : va_A [(rm0, .inr (10, [.ref e0, .ref d0, .ref v0, .ref t0, .ref n0, .ref s0, .ref z0, .ref g0, .ref h0, .ref o0, .ref j0, .ref j1, .ref j2, .ref j3, .int 0, .int (-1), .int (-1), .int (-1)]))] s.heap.size = A at hD ⊢
  have hA : ∀ q : Nat, s.heap.size ≤ q → A q := fun q h => by rw [← hAe]; exact Or.inr h
  have hS : va_S A s.heap s.heap [] := va_S.rf
  have hP : va_P D vwCl [(rm0, .inr (10, [.ref e0, .ref d0, .ref v0, .ref t0, .ref n0, .ref s0, .ref z0, .ref g0, .ref h0, .ref o0, .ref j0, .ref j1, .ref j2, .ref j3, .int 0, .int (-1), .int (-1), .int (-1)]))] s.heap := hP
  have hl := lv_entry ([.ref rm0]) (n := 1) (Nat.le_of_ble_eq_true rfl)
  rw [lg_entry_eq]
  generalize (lg_sl ([.ref rm0]) ++ List.replicate (1 - (lg_sl ([.ref rm0])).length) Slot.unset).toArray = ls at hl ⊢
  have hl : lv_has ls 1 [(0, .ref rm0)] := hl
  refine lv_aload_n hx hb dX12_given_0 rfl (lv_at hl 0 rfl) ?_
  refine va_get (D := D) (ci := 10) (v := .int (-1)) (C := RX12) (T := TX12) (N := 18) hx hb hts inX12_given_X12 hown hK hP 0 rfl rfl 15 (by decide) (hts (.fieldLink RX12 97 "RungMoney" "givenBits" "I") (by decide +kernel)) (fun _ h9 => h9) rfl dX12_given_1 ?_
  have hP := hP.sub (ws' := [(rm0, .inr (10, [.ref e0, .ref d0, .ref v0, .ref t0, .ref n0, .ref s0, .ref z0, .ref g0, .ref h0, .ref o0, .ref j0, .ref j1, .ref j2, .ref j3, .int 0, .int (-1), .int (-1), .int (-1)]))]) [0] rfl
  have hD := hD.sub (ws' := [(rm0, .inr (10, [.ref e0, .ref d0, .ref v0, .ref t0, .ref n0, .ref s0, .ref z0, .ref g0, .ref h0, .ref o0, .ref j0, .ref j1, .ref j2, .ref j3, .int 0, .int (-1), .int (-1), .int (-1)]))]) [0] (by decide) rfl
  exact g_iret hx hb hr rfl hlocks hK (fun _ => 0) hP hD hS rfl dX12_given_4 ⟨Nat.le_of_ble_eq_true rfl, Nat.le_of_ble_eq_true rfl⟩
set_option maxHeartbeats 4000000 in
set_option maxRecDepth 100000 in
theorem cM_cut (l : Launch) (D : va_G) (k : Nat → ClassId) (rm0 : Nat) (e0 : Nat) (d0 : Nat) (v0 : Nat) (t0 : Nat) (n0 : Nat) (s0 : Nat) (z0 : Nat) (g0 : Nat) (h0 : Nat) (o0 : Nat) (j0 : Nat) (j1 : Nat) (j2 : Nat) (j3 : Nat) : g_Ci l yX12_cut wsX12_cut ({ frames := 0, cells := 0, slots := 0, locals := 0 }) D k g_E0 [.ref rm0] [(rm0, .inr (10, [.ref e0, .ref d0, .ref v0, .ref t0, .ref n0, .ref s0, .ref z0, .ref g0, .ref h0, .ref o0, .ref j0, .ref j1, .ref j2, .ref j3, .int 0, .int (-1), .int (-1), .int (-1)]))] (-1) (fun u => [(rm0, .inr (10, [.ref e0, .ref d0, .ref v0, .ref t0, .ref n0, .ref s0, .ref z0, .ref g0, .ref h0, .ref o0, .ref j0, .ref j1, .ref j2, .ref j3, .int 0, .int (-1), .int (-1), .int (-1)]))]) 0 0 := by
  intro sz
  refine Met.ofW (cc := cX12_cut) (maxL := 1) (ret := (some .int)) (by decide) rfl ?_
  intro p e s m args below meth c s₁ B hml hv
  obtain ⟨rfl, hsz, hP, hK, hD0, hE⟩ := hv
  have hx := B.exec
  have hb := B.bytes
  have hr := B.returns
  have hts := atoms_spec (ws := wsX12_cut) B.pre
  have hown : s.vm.findClass RX12 = some m.cls := findClass_of_methodNamed B.named
  have hlocks := B.notSynchronized
  subst hsz
  have hD := hD0.self (sz := s.heap.size)
  generalize hAe : va_A [(rm0, .inr (10, [.ref e0, .ref d0, .ref v0, .ref t0, .ref n0, .ref s0, .ref z0, .ref g0, .ref h0, .ref o0, .ref j0, .ref j1, .ref j2, .ref j3, .int 0, .int (-1), .int (-1), .int (-1)]))] s.heap.size = A at hD ⊢
  have hA : ∀ q : Nat, s.heap.size ≤ q → A q := fun q h => by rw [← hAe]; exact Or.inr h
  have hS : va_S A s.heap s.heap [] := va_S.rf
  have hP : va_P D vwCl [(rm0, .inr (10, [.ref e0, .ref d0, .ref v0, .ref t0, .ref n0, .ref s0, .ref z0, .ref g0, .ref h0, .ref o0, .ref j0, .ref j1, .ref j2, .ref j3, .int 0, .int (-1), .int (-1), .int (-1)]))] s.heap := hP
  have hl := lv_entry ([.ref rm0]) (n := 1) (Nat.le_of_ble_eq_true rfl)
  rw [lg_entry_eq]
  generalize (lg_sl ([.ref rm0]) ++ List.replicate (1 - (lg_sl ([.ref rm0])).length) Slot.unset).toArray = ls at hl ⊢
  have hl : lv_has ls 1 [(0, .ref rm0)] := hl
  refine lv_aload_n hx hb dX12_cut_0 rfl (lv_at hl 0 rfl) ?_
  refine va_get (D := D) (ci := 10) (v := .int (-1)) (C := RX12) (T := TX12) (N := 18) hx hb hts inX12_cut_X12 hown hK hP 0 rfl rfl 16 (by decide) (hts (.fieldLink RX12 101 "RungMoney" "cutPlace" "I") (by decide +kernel)) (fun _ h9 => h9) rfl dX12_cut_1 ?_
  have hP := hP.sub (ws' := [(rm0, .inr (10, [.ref e0, .ref d0, .ref v0, .ref t0, .ref n0, .ref s0, .ref z0, .ref g0, .ref h0, .ref o0, .ref j0, .ref j1, .ref j2, .ref j3, .int 0, .int (-1), .int (-1), .int (-1)]))]) [0] rfl
  have hD := hD.sub (ws' := [(rm0, .inr (10, [.ref e0, .ref d0, .ref v0, .ref t0, .ref n0, .ref s0, .ref z0, .ref g0, .ref h0, .ref o0, .ref j0, .ref j1, .ref j2, .ref j3, .int 0, .int (-1), .int (-1), .int (-1)]))]) [0] (by decide) rfl
  exact g_iret hx hb hr rfl hlocks hK (fun _ => 0) hP hD hS rfl dX12_cut_4 ⟨Nat.le_of_ble_eq_true rfl, Nat.le_of_ble_eq_true rfl⟩
set_option maxHeartbeats 4000000 in
set_option maxRecDepth 100000 in
theorem cM_wood (l : Launch) (D : va_G) (k : Nat → ClassId) (rm0 : Nat) (e0 : Nat) (d0 : Nat) (v0 : Nat) (t0 : Nat) (n0 : Nat) (s0 : Nat) (z0 : Nat) (g0 : Nat) (h0 : Nat) (o0 : Nat) (j0 : Nat) (j1 : Nat) (j2 : Nat) (j3 : Nat) : g_Ci l yX12_wood wsX12_wood ({ frames := 0, cells := 0, slots := 0, locals := 0 }) D k g_E0 [.ref rm0] [(rm0, .inr (10, [.ref e0, .ref d0, .ref v0, .ref t0, .ref n0, .ref s0, .ref z0, .ref g0, .ref h0, .ref o0, .ref j0, .ref j1, .ref j2, .ref j3, .int 0, .int (-1), .int (-1), .int (-1)]))] (-1) (fun u => [(rm0, .inr (10, [.ref e0, .ref d0, .ref v0, .ref t0, .ref n0, .ref s0, .ref z0, .ref g0, .ref h0, .ref o0, .ref j0, .ref j1, .ref j2, .ref j3, .int 0, .int (-1), .int (-1), .int (-1)]))]) 0 0 := by
  intro sz
  refine Met.ofW (cc := cX12_wood) (maxL := 1) (ret := (some .int)) (by decide) rfl ?_
  intro p e s m args below meth c s₁ B hml hv
  obtain ⟨rfl, hsz, hP, hK, hD0, hE⟩ := hv
  have hx := B.exec
  have hb := B.bytes
  have hr := B.returns
  have hts := atoms_spec (ws := wsX12_wood) B.pre
  have hown : s.vm.findClass RX12 = some m.cls := findClass_of_methodNamed B.named
  have hlocks := B.notSynchronized
  subst hsz
  have hD := hD0.self (sz := s.heap.size)
  generalize hAe : va_A [(rm0, .inr (10, [.ref e0, .ref d0, .ref v0, .ref t0, .ref n0, .ref s0, .ref z0, .ref g0, .ref h0, .ref o0, .ref j0, .ref j1, .ref j2, .ref j3, .int 0, .int (-1), .int (-1), .int (-1)]))] s.heap.size = A at hD ⊢
  have hA : ∀ q : Nat, s.heap.size ≤ q → A q := fun q h => by rw [← hAe]; exact Or.inr h
  have hS : va_S A s.heap s.heap [] := va_S.rf
  have hP : va_P D vwCl [(rm0, .inr (10, [.ref e0, .ref d0, .ref v0, .ref t0, .ref n0, .ref s0, .ref z0, .ref g0, .ref h0, .ref o0, .ref j0, .ref j1, .ref j2, .ref j3, .int 0, .int (-1), .int (-1), .int (-1)]))] s.heap := hP
  have hl := lv_entry ([.ref rm0]) (n := 1) (Nat.le_of_ble_eq_true rfl)
  rw [lg_entry_eq]
  generalize (lg_sl ([.ref rm0]) ++ List.replicate (1 - (lg_sl ([.ref rm0])).length) Slot.unset).toArray = ls at hl ⊢
  have hl : lv_has ls 1 [(0, .ref rm0)] := hl
  refine lv_aload_n hx hb dX12_wood_0 rfl (lv_at hl 0 rfl) ?_
  refine va_get (D := D) (ci := 10) (v := .int (-1)) (C := RX12) (T := TX12) (N := 18) hx hb hts inX12_wood_X12 hown hK hP 0 rfl rfl 17 (by decide) (hts (.fieldLink RX12 104 "RungMoney" "woodBits" "I") (by decide +kernel)) (fun _ h9 => h9) rfl dX12_wood_1 ?_
  have hP := hP.sub (ws' := [(rm0, .inr (10, [.ref e0, .ref d0, .ref v0, .ref t0, .ref n0, .ref s0, .ref z0, .ref g0, .ref h0, .ref o0, .ref j0, .ref j1, .ref j2, .ref j3, .int 0, .int (-1), .int (-1), .int (-1)]))]) [0] rfl
  have hD := hD.sub (ws' := [(rm0, .inr (10, [.ref e0, .ref d0, .ref v0, .ref t0, .ref n0, .ref s0, .ref z0, .ref g0, .ref h0, .ref o0, .ref j0, .ref j1, .ref j2, .ref j3, .int 0, .int (-1), .int (-1), .int (-1)]))]) [0] (by decide) rfl
  exact g_iret hx hb hr rfl hlocks hK (fun _ => 0) hP hD hS rfl dX12_wood_4 ⟨Nat.le_of_ble_eq_true rfl, Nat.le_of_ble_eq_true rfl⟩
set_option maxHeartbeats 4000000 in
set_option maxRecDepth 100000 in
theorem cM_rung (l : Launch) (D : va_G) (k : Nat → ClassId) (rm0 : Nat) (e0 : Nat) (d0 : Nat) (v0 : Nat) (t0 : Nat) (n0 : Nat) (s0 : Nat) (z0 : Nat) (g0 : Nat) (h0 : Nat) (o0 : Nat) (j0 : Nat) (j1 : Nat) (j2 : Nat) (j3 : Nat) (t1 : Nat) (t2 : Nat) (t3 : Nat) (t4 : Nat) (t5 : Nat) (t6 : Nat) (t7 : Nat) (t8 : Nat) (t11 : Nat) (p0 : Int32) (p1 : Int32) : g_Ci l yX12_rung wsX12_rung ({ frames := 2, cells := 0, slots := 0, locals := 43 }) D k g_E0 [.ref rm0, .int p0, .int p1] [(rm0, .inr (10, [.ref e0, .ref d0, .ref v0, .ref t0, .ref n0, .ref s0, .ref z0, .ref g0, .ref h0, .ref o0, .ref j0, .ref j1, .ref j2, .ref j3, .int 0, .int (-1), .int (-1), .int (-1)])), (t0, .inr (8, [.int 0, .ref t1, .ref t2, .ref t8, .ref t11, .int 1, .int 0, .int 0, .int 0])), (t2, .inr (1, [.int 0, .ref t3, .ref t4, .ref t5, .ref t6, .ref t7]))] (-1) (fun u => [(rm0, .inr (10, [.ref e0, .ref d0, .ref v0, .ref t0, .ref n0, .ref s0, .ref z0, .ref g0, .ref h0, .ref o0, .ref j0, .ref j1, .ref j2, .ref j3, .int 0, .int (-1), .int (-1), .int (-1)])), (t0, .inr (8, [.int 0, .ref t1, .ref t2, .ref t8, .ref t11, .int 1, .int 0, .int 0, .int 0])), (t2, .inr (1, [.int 0, .ref t3, .ref t4, .ref t5, .ref t6, .ref t7]))]) 0 0 := by
  intro sz
  refine Met.ofW (cc := cX12_rung) (maxL := 3) (ret := (some .int)) (by decide) rfl ?_
  intro p e s m args below meth c s₁ B hml hv
  obtain ⟨rfl, hsz, hP, hK, hD0, hE⟩ := hv
  have hx := B.exec
  have hb := B.bytes
  have hr := B.returns
  have hts := atoms_spec (ws := wsX12_rung) B.pre
  have hown : s.vm.findClass RX12 = some m.cls := findClass_of_methodNamed B.named
  have hlocks := B.notSynchronized
  subst hsz
  have hD := hD0.self (sz := s.heap.size)
  generalize hAe : va_A [(rm0, .inr (10, [.ref e0, .ref d0, .ref v0, .ref t0, .ref n0, .ref s0, .ref z0, .ref g0, .ref h0, .ref o0, .ref j0, .ref j1, .ref j2, .ref j3, .int 0, .int (-1), .int (-1), .int (-1)])), (t0, .inr (8, [.int 0, .ref t1, .ref t2, .ref t8, .ref t11, .int 1, .int 0, .int 0, .int 0])), (t2, .inr (1, [.int 0, .ref t3, .ref t4, .ref t5, .ref t6, .ref t7]))] s.heap.size = A at hD ⊢
  have hA : ∀ q : Nat, s.heap.size ≤ q → A q := fun q h => by rw [← hAe]; exact Or.inr h
  have hS : va_S A s.heap s.heap [] := va_S.rf
  have hP : va_P D vwCl [(rm0, .inr (10, [.ref e0, .ref d0, .ref v0, .ref t0, .ref n0, .ref s0, .ref z0, .ref g0, .ref h0, .ref o0, .ref j0, .ref j1, .ref j2, .ref j3, .int 0, .int (-1), .int (-1), .int (-1)])), (t0, .inr (8, [.int 0, .ref t1, .ref t2, .ref t8, .ref t11, .int 1, .int 0, .int 0, .int 0])), (t2, .inr (1, [.int 0, .ref t3, .ref t4, .ref t5, .ref t6, .ref t7]))] s.heap := hP
  have hl := lv_entry ([.ref rm0, .int p0, .int p1]) (n := 3) (Nat.le_of_ble_eq_true rfl)
  rw [lg_entry_eq]
  generalize (lg_sl ([.ref rm0, .int p0, .int p1]) ++ List.replicate (3 - (lg_sl ([.ref rm0, .int p0, .int p1])).length) Slot.unset).toArray = ls at hl ⊢
  have hl : lv_has ls 3 [(0, .ref rm0), (1, .int p0), (2, .int p1)] := hl
  refine lv_aload_n hx hb dX12_rung_0 rfl (lv_at hl 0 rfl) ?_
  refine va_get (D := D) (ci := 10) (v := .ref t0) (C := RX12) (T := TX12) (N := 18) hx hb hts inX12_rung_X12 hown hK hP 0 rfl rfl 3 (by decide) (hts (.fieldLink RX12 37 "RungMoney" "town" "LRungMoney$Town;") (by decide +kernel)) (fun _ h9 => h9) rfl dX12_rung_1 ?_
  refine va_get (D := D) (ci := 8) (v := .ref t2) (C := RX10) (T := TX10) (N := 9) hx hb hts inX12_rung_X10 hown hK hP 1 rfl rfl 2 (by decide) (hts (.fieldLink RX12 142 "RungMoney$Town" "ladders" "LRungMoney$Ladders;") (by decide +kernel)) (fun _ h9 => h9) rfl dX12_rung_4 ?_
  refine lv_iload_n hx hb dX12_rung_7 rfl (lv_at hl 1 rfl) ?_
  refine lv_iload_n hx hb dX12_rung_8 rfl (lv_at hl 2 rfl) ?_
  refine g_iV (As := [.int p0, .int p1]) (rest := []) (wr := [(rm0, .inr (10, [.ref e0, .ref d0, .ref v0, .ref t0, .ref n0, .ref s0, .ref z0, .ref g0, .ref h0, .ref o0, .ref j0, .ref j1, .ref j2, .ref j3, .int 0, .int (-1), .int (-1), .int (-1)])), (t0, .inr (8, [.int 0, .ref t1, .ref t2, .ref t8, .ref t11, .int 1, .int 0, .int 0, .int 0]))]) ⟨hx, hb, hml, hown, hts⟩ (cL_kind l D k t2 t3 t4 t5 t6 t7 p0 p1) (cwV 2 hts gX12_rung_X3_kind rfl rfl rfl (by decide +kernel) ⟨Nat.le_of_ble_eq_true rfl, Nat.le_of_ble_eq_true rfl⟩) g_E0_ok (fun _ _ _ => trivial) hK hP hD hS hA 2 1 rfl rfl rfl [2] [0, 1] rfl rfl (by decide) rfl hl.1 rfl (Nat.le_of_ble_eq_true rfl) dX12_rung_9 ⟨Nat.le_of_ble_eq_true rfl, Nat.le_of_ble_eq_true rfl⟩ (fun u1 H locs hP hD hS => ?_)
  have hP : va_P D vwCl [(rm0, .inr (10, [.ref e0, .ref d0, .ref v0, .ref t0, .ref n0, .ref s0, .ref z0, .ref g0, .ref h0, .ref o0, .ref j0, .ref j1, .ref j2, .ref j3, .int 0, .int (-1), .int (-1), .int (-1)])), (t0, .inr (8, [.int 0, .ref t1, .ref t2, .ref t8, .ref t11, .int 1, .int 0, .int 0, .int 0])), (t2, .inr (1, [.int 0, .ref t3, .ref t4, .ref t5, .ref t6, .ref t7]))] H := hP
  have hD : va_D A [(rm0, .inr (10, [.ref e0, .ref d0, .ref v0, .ref t0, .ref n0, .ref s0, .ref z0, .ref g0, .ref h0, .ref o0, .ref j0, .ref j1, .ref j2, .ref j3, .int 0, .int (-1), .int (-1), .int (-1)])), (t0, .inr (8, [.int 0, .ref t1, .ref t2, .ref t8, .ref t11, .int 1, .int 0, .int 0, .int 0])), (t2, .inr (1, [.int 0, .ref t3, .ref t4, .ref t5, .ref t6, .ref t7]))] := hD
  have hP := hP.sub (ws' := [(rm0, .inr (10, [.ref e0, .ref d0, .ref v0, .ref t0, .ref n0, .ref s0, .ref z0, .ref g0, .ref h0, .ref o0, .ref j0, .ref j1, .ref j2, .ref j3, .int 0, .int (-1), .int (-1), .int (-1)])), (t0, .inr (8, [.int 0, .ref t1, .ref t2, .ref t8, .ref t11, .int 1, .int 0, .int 0, .int 0])), (t2, .inr (1, [.int 0, .ref t3, .ref t4, .ref t5, .ref t6, .ref t7]))]) [0, 1, 2] rfl
  have hD := hD.sub (ws' := [(rm0, .inr (10, [.ref e0, .ref d0, .ref v0, .ref t0, .ref n0, .ref s0, .ref z0, .ref g0, .ref h0, .ref o0, .ref j0, .ref j1, .ref j2, .ref j3, .int 0, .int (-1), .int (-1), .int (-1)])), (t0, .inr (8, [.int 0, .ref t1, .ref t2, .ref t8, .ref t11, .int 1, .int 0, .int 0, .int 0])), (t2, .inr (1, [.int 0, .ref t3, .ref t4, .ref t5, .ref t6, .ref t7]))]) [0, 1, 2] (by decide) rfl
  exact g_iret hx hb hr rfl hlocks hK (fun _ => 0) hP hD hS rfl dX12_rung_12 ⟨Nat.le_of_ble_eq_true rfl, Nat.le_of_ble_eq_true rfl⟩
set_option maxHeartbeats 4000000 in
set_option maxRecDepth 100000 in
theorem cM_man (l : Launch) (D : va_G) (k : Nat → ClassId) (rm0 : Nat) (e0 : Nat) (d0 : Nat) (v0 : Nat) (t0 : Nat) (n0 : Nat) (s0 : Nat) (z0 : Nat) (g0 : Nat) (h0 : Nat) (o0 : Nat) (j0 : Nat) (j1 : Nat) (j2 : Nat) (j3 : Nat) (t1 : Nat) (t2 : Nat) (t3 : Nat) (t4 : Nat) (t5 : Nat) (t6 : Nat) (t7 : Nat) (t8 : Nat) (t11 : Nat) (p0 : Int32) (p1 : Int32) : g_Ci l yX12_man wsX12_man ({ frames := 1, cells := 0, slots := 0, locals := 21 }) D k g_E0 [.ref rm0, .int p0, .int p1] [(rm0, .inr (10, [.ref e0, .ref d0, .ref v0, .ref t0, .ref n0, .ref s0, .ref z0, .ref g0, .ref h0, .ref o0, .ref j0, .ref j1, .ref j2, .ref j3, .int 0, .int (-1), .int (-1), .int (-1)])), (t0, .inr (8, [.int 0, .ref t1, .ref t2, .ref t8, .ref t11, .int 1, .int 0, .int 0, .int 0])), (t2, .inr (1, [.int 0, .ref t3, .ref t4, .ref t5, .ref t6, .ref t7]))] (-1) (fun u => [(rm0, .inr (10, [.ref e0, .ref d0, .ref v0, .ref t0, .ref n0, .ref s0, .ref z0, .ref g0, .ref h0, .ref o0, .ref j0, .ref j1, .ref j2, .ref j3, .int 0, .int (-1), .int (-1), .int (-1)])), (t0, .inr (8, [.int 0, .ref t1, .ref t2, .ref t8, .ref t11, .int 1, .int 0, .int 0, .int 0])), (t2, .inr (1, [.int 0, .ref t3, .ref t4, .ref t5, .ref t6, .ref t7]))]) 0 0 := by
  intro sz
  refine Met.ofW (cc := cX12_man) (maxL := 3) (ret := (some .int)) (by decide) rfl ?_
  intro p e s m args below meth c s₁ B hml hv
  obtain ⟨rfl, hsz, hP, hK, hD0, hE⟩ := hv
  have hx := B.exec
  have hb := B.bytes
  have hr := B.returns
  have hts := atoms_spec (ws := wsX12_man) B.pre
  have hown : s.vm.findClass RX12 = some m.cls := findClass_of_methodNamed B.named
  have hlocks := B.notSynchronized
  subst hsz
  have hD := hD0.self (sz := s.heap.size)
  generalize hAe : va_A [(rm0, .inr (10, [.ref e0, .ref d0, .ref v0, .ref t0, .ref n0, .ref s0, .ref z0, .ref g0, .ref h0, .ref o0, .ref j0, .ref j1, .ref j2, .ref j3, .int 0, .int (-1), .int (-1), .int (-1)])), (t0, .inr (8, [.int 0, .ref t1, .ref t2, .ref t8, .ref t11, .int 1, .int 0, .int 0, .int 0])), (t2, .inr (1, [.int 0, .ref t3, .ref t4, .ref t5, .ref t6, .ref t7]))] s.heap.size = A at hD ⊢
  have hA : ∀ q : Nat, s.heap.size ≤ q → A q := fun q h => by rw [← hAe]; exact Or.inr h
  have hS : va_S A s.heap s.heap [] := va_S.rf
  have hP : va_P D vwCl [(rm0, .inr (10, [.ref e0, .ref d0, .ref v0, .ref t0, .ref n0, .ref s0, .ref z0, .ref g0, .ref h0, .ref o0, .ref j0, .ref j1, .ref j2, .ref j3, .int 0, .int (-1), .int (-1), .int (-1)])), (t0, .inr (8, [.int 0, .ref t1, .ref t2, .ref t8, .ref t11, .int 1, .int 0, .int 0, .int 0])), (t2, .inr (1, [.int 0, .ref t3, .ref t4, .ref t5, .ref t6, .ref t7]))] s.heap := hP
  have hl := lv_entry ([.ref rm0, .int p0, .int p1]) (n := 3) (Nat.le_of_ble_eq_true rfl)
  rw [lg_entry_eq]
  generalize (lg_sl ([.ref rm0, .int p0, .int p1]) ++ List.replicate (3 - (lg_sl ([.ref rm0, .int p0, .int p1])).length) Slot.unset).toArray = ls at hl ⊢
  have hl : lv_has ls 3 [(0, .ref rm0), (1, .int p0), (2, .int p1)] := hl
  refine lv_aload_n hx hb dX12_man_0 rfl (lv_at hl 0 rfl) ?_
  refine va_get (D := D) (ci := 10) (v := .ref t0) (C := RX12) (T := TX12) (N := 18) hx hb hts inX12_man_X12 hown hK hP 0 rfl rfl 3 (by decide) (hts (.fieldLink RX12 37 "RungMoney" "town" "LRungMoney$Town;") (by decide +kernel)) (fun _ h9 => h9) rfl dX12_man_1 ?_
  refine lv_iload_n hx hb dX12_man_4 rfl (lv_at hl 1 rfl) ?_
  refine g_iV (As := [.int p0]) (rest := []) (wr := [(rm0, .inr (10, [.ref e0, .ref d0, .ref v0, .ref t0, .ref n0, .ref s0, .ref z0, .ref g0, .ref h0, .ref o0, .ref j0, .ref j1, .ref j2, .ref j3, .int 0, .int (-1), .int (-1), .int (-1)])), (t2, .inr (1, [.int 0, .ref t3, .ref t4, .ref t5, .ref t6, .ref t7]))]) ⟨hx, hb, hml, hown, hts⟩ (cT_hasMan l D k t0 t1 t2 t8 t11 p0) (cwV 1 hts gX12_man_X10_hasMan rfl rfl rfl (by decide +kernel) ⟨Nat.le_of_ble_eq_true rfl, Nat.le_of_ble_eq_true rfl⟩) g_E0_ok (fun _ _ _ => trivial) hK hP hD hS hA 1 8 rfl rfl rfl [1] [0, 2] rfl rfl (by decide) rfl hl.1 rfl (Nat.le_of_ble_eq_true rfl) dX12_man_5 ⟨Nat.le_of_ble_eq_true rfl, Nat.le_of_ble_eq_true rfl⟩ (fun u1 H locs hP hD hS => ?_)
  have hP : va_P D vwCl [(rm0, .inr (10, [.ref e0, .ref d0, .ref v0, .ref t0, .ref n0, .ref s0, .ref z0, .ref g0, .ref h0, .ref o0, .ref j0, .ref j1, .ref j2, .ref j3, .int 0, .int (-1), .int (-1), .int (-1)])), (t2, .inr (1, [.int 0, .ref t3, .ref t4, .ref t5, .ref t6, .ref t7])), (t0, .inr (8, [.int 0, .ref t1, .ref t2, .ref t8, .ref t11, .int 1, .int 0, .int 0, .int 0]))] H := hP
  have hD : va_D A [(rm0, .inr (10, [.ref e0, .ref d0, .ref v0, .ref t0, .ref n0, .ref s0, .ref z0, .ref g0, .ref h0, .ref o0, .ref j0, .ref j1, .ref j2, .ref j3, .int 0, .int (-1), .int (-1), .int (-1)])), (t2, .inr (1, [.int 0, .ref t3, .ref t4, .ref t5, .ref t6, .ref t7])), (t0, .inr (8, [.int 0, .ref t1, .ref t2, .ref t8, .ref t11, .int 1, .int 0, .int 0, .int 0]))] := hD
  refine lv_if_ne (tgt := 13) hx hb dX12_man_8 (by decide) (fun h9 => absurd rfl h9) (fun _ => ?_)
  refine lv_iconst (v := (-1)) hx hb dX12_man_11 (by decide) ?_
  have hP := hP.sub (ws' := [(rm0, .inr (10, [.ref e0, .ref d0, .ref v0, .ref t0, .ref n0, .ref s0, .ref z0, .ref g0, .ref h0, .ref o0, .ref j0, .ref j1, .ref j2, .ref j3, .int 0, .int (-1), .int (-1), .int (-1)])), (t0, .inr (8, [.int 0, .ref t1, .ref t2, .ref t8, .ref t11, .int 1, .int 0, .int 0, .int 0])), (t2, .inr (1, [.int 0, .ref t3, .ref t4, .ref t5, .ref t6, .ref t7]))]) [0, 2, 1] rfl
  have hD := hD.sub (ws' := [(rm0, .inr (10, [.ref e0, .ref d0, .ref v0, .ref t0, .ref n0, .ref s0, .ref z0, .ref g0, .ref h0, .ref o0, .ref j0, .ref j1, .ref j2, .ref j3, .int 0, .int (-1), .int (-1), .int (-1)])), (t0, .inr (8, [.int 0, .ref t1, .ref t2, .ref t8, .ref t11, .int 1, .int 0, .int 0, .int 0])), (t2, .inr (1, [.int 0, .ref t3, .ref t4, .ref t5, .ref t6, .ref t7]))]) [0, 2, 1] (by decide) rfl
  exact g_iret hx hb hr rfl hlocks hK (fun _ => 0) hP hD hS rfl dX12_man_12 ⟨Nat.le_of_ble_eq_true rfl, Nat.le_of_ble_eq_true rfl⟩
set_option maxHeartbeats 4000000 in
set_option maxRecDepth 100000 in
theorem cM_debt (l : Launch) (D : va_G) (k : Nat → ClassId) (rm0 : Nat) (e0 : Nat) (d0 : Nat) (v0 : Nat) (t0 : Nat) (n0 : Nat) (s0 : Nat) (z0 : Nat) (g0 : Nat) (h0 : Nat) (o0 : Nat) (j0 : Nat) (j1 : Nat) (j2 : Nat) (j3 : Nat) (t1 : Nat) (t2 : Nat) (t3 : Nat) (t4 : Nat) (t5 : Nat) (t6 : Nat) (t7 : Nat) (t8 : Nat) (t11 : Nat) (p0 : Int32) (p1 : Int32) : g_Ci l yX12_debt wsX12_debt ({ frames := 1, cells := 0, slots := 0, locals := 21 }) D k g_E0 [.ref rm0, .int p0, .int p1] [(rm0, .inr (10, [.ref e0, .ref d0, .ref v0, .ref t0, .ref n0, .ref s0, .ref z0, .ref g0, .ref h0, .ref o0, .ref j0, .ref j1, .ref j2, .ref j3, .int 0, .int (-1), .int (-1), .int (-1)])), (t0, .inr (8, [.int 0, .ref t1, .ref t2, .ref t8, .ref t11, .int 1, .int 0, .int 0, .int 0])), (t2, .inr (1, [.int 0, .ref t3, .ref t4, .ref t5, .ref t6, .ref t7]))] (-1) (fun u => [(rm0, .inr (10, [.ref e0, .ref d0, .ref v0, .ref t0, .ref n0, .ref s0, .ref z0, .ref g0, .ref h0, .ref o0, .ref j0, .ref j1, .ref j2, .ref j3, .int 0, .int (-1), .int (-1), .int (-1)])), (t0, .inr (8, [.int 0, .ref t1, .ref t2, .ref t8, .ref t11, .int 1, .int 0, .int 0, .int 0])), (t2, .inr (1, [.int 0, .ref t3, .ref t4, .ref t5, .ref t6, .ref t7]))]) 0 0 := by
  intro sz
  refine Met.ofW (cc := cX12_debt) (maxL := 3) (ret := (some .int)) (by decide) rfl ?_
  intro p e s m args below meth c s₁ B hml hv
  obtain ⟨rfl, hsz, hP, hK, hD0, hE⟩ := hv
  have hx := B.exec
  have hb := B.bytes
  have hr := B.returns
  have hts := atoms_spec (ws := wsX12_debt) B.pre
  have hown : s.vm.findClass RX12 = some m.cls := findClass_of_methodNamed B.named
  have hlocks := B.notSynchronized
  subst hsz
  have hD := hD0.self (sz := s.heap.size)
  generalize hAe : va_A [(rm0, .inr (10, [.ref e0, .ref d0, .ref v0, .ref t0, .ref n0, .ref s0, .ref z0, .ref g0, .ref h0, .ref o0, .ref j0, .ref j1, .ref j2, .ref j3, .int 0, .int (-1), .int (-1), .int (-1)])), (t0, .inr (8, [.int 0, .ref t1, .ref t2, .ref t8, .ref t11, .int 1, .int 0, .int 0, .int 0])), (t2, .inr (1, [.int 0, .ref t3, .ref t4, .ref t5, .ref t6, .ref t7]))] s.heap.size = A at hD ⊢
  have hA : ∀ q : Nat, s.heap.size ≤ q → A q := fun q h => by rw [← hAe]; exact Or.inr h
  have hS : va_S A s.heap s.heap [] := va_S.rf
  have hP : va_P D vwCl [(rm0, .inr (10, [.ref e0, .ref d0, .ref v0, .ref t0, .ref n0, .ref s0, .ref z0, .ref g0, .ref h0, .ref o0, .ref j0, .ref j1, .ref j2, .ref j3, .int 0, .int (-1), .int (-1), .int (-1)])), (t0, .inr (8, [.int 0, .ref t1, .ref t2, .ref t8, .ref t11, .int 1, .int 0, .int 0, .int 0])), (t2, .inr (1, [.int 0, .ref t3, .ref t4, .ref t5, .ref t6, .ref t7]))] s.heap := hP
  have hl := lv_entry ([.ref rm0, .int p0, .int p1]) (n := 3) (Nat.le_of_ble_eq_true rfl)
  rw [lg_entry_eq]
  generalize (lg_sl ([.ref rm0, .int p0, .int p1]) ++ List.replicate (3 - (lg_sl ([.ref rm0, .int p0, .int p1])).length) Slot.unset).toArray = ls at hl ⊢
  have hl : lv_has ls 3 [(0, .ref rm0), (1, .int p0), (2, .int p1)] := hl
  refine lv_aload_n hx hb dX12_debt_0 rfl (lv_at hl 0 rfl) ?_
  refine va_get (D := D) (ci := 10) (v := .ref t0) (C := RX12) (T := TX12) (N := 18) hx hb hts inX12_debt_X12 hown hK hP 0 rfl rfl 3 (by decide) (hts (.fieldLink RX12 37 "RungMoney" "town" "LRungMoney$Town;") (by decide +kernel)) (fun _ h9 => h9) rfl dX12_debt_1 ?_
  refine lv_iload_n hx hb dX12_debt_4 rfl (lv_at hl 1 rfl) ?_
  refine g_iV (As := [.int p0]) (rest := []) (wr := [(rm0, .inr (10, [.ref e0, .ref d0, .ref v0, .ref t0, .ref n0, .ref s0, .ref z0, .ref g0, .ref h0, .ref o0, .ref j0, .ref j1, .ref j2, .ref j3, .int 0, .int (-1), .int (-1), .int (-1)])), (t2, .inr (1, [.int 0, .ref t3, .ref t4, .ref t5, .ref t6, .ref t7]))]) ⟨hx, hb, hml, hown, hts⟩ (cT_hasMan l D k t0 t1 t2 t8 t11 p0) (cwV 1 hts gX12_debt_X10_hasMan rfl rfl rfl (by decide +kernel) ⟨Nat.le_of_ble_eq_true rfl, Nat.le_of_ble_eq_true rfl⟩) g_E0_ok (fun _ _ _ => trivial) hK hP hD hS hA 1 8 rfl rfl rfl [1] [0, 2] rfl rfl (by decide) rfl hl.1 rfl (Nat.le_of_ble_eq_true rfl) dX12_debt_5 ⟨Nat.le_of_ble_eq_true rfl, Nat.le_of_ble_eq_true rfl⟩ (fun u1 H locs hP hD hS => ?_)
  have hP : va_P D vwCl [(rm0, .inr (10, [.ref e0, .ref d0, .ref v0, .ref t0, .ref n0, .ref s0, .ref z0, .ref g0, .ref h0, .ref o0, .ref j0, .ref j1, .ref j2, .ref j3, .int 0, .int (-1), .int (-1), .int (-1)])), (t2, .inr (1, [.int 0, .ref t3, .ref t4, .ref t5, .ref t6, .ref t7])), (t0, .inr (8, [.int 0, .ref t1, .ref t2, .ref t8, .ref t11, .int 1, .int 0, .int 0, .int 0]))] H := hP
  have hD : va_D A [(rm0, .inr (10, [.ref e0, .ref d0, .ref v0, .ref t0, .ref n0, .ref s0, .ref z0, .ref g0, .ref h0, .ref o0, .ref j0, .ref j1, .ref j2, .ref j3, .int 0, .int (-1), .int (-1), .int (-1)])), (t2, .inr (1, [.int 0, .ref t3, .ref t4, .ref t5, .ref t6, .ref t7])), (t0, .inr (8, [.int 0, .ref t1, .ref t2, .ref t8, .ref t11, .int 1, .int 0, .int 0, .int 0]))] := hD
  refine lv_if_eq (tgt := 42) hx hb dX12_debt_8 (by decide) (fun _ => ?_) (fun h9 => absurd (by decide) h9)
  refine lv_iconst (v := (-1)) hx hb dX12_debt_42 (by decide) ?_
  have hP := hP.sub (ws' := [(rm0, .inr (10, [.ref e0, .ref d0, .ref v0, .ref t0, .ref n0, .ref s0, .ref z0, .ref g0, .ref h0, .ref o0, .ref j0, .ref j1, .ref j2, .ref j3, .int 0, .int (-1), .int (-1), .int (-1)])), (t0, .inr (8, [.int 0, .ref t1, .ref t2, .ref t8, .ref t11, .int 1, .int 0, .int 0, .int 0])), (t2, .inr (1, [.int 0, .ref t3, .ref t4, .ref t5, .ref t6, .ref t7]))]) [0, 2, 1] rfl
  have hD := hD.sub (ws' := [(rm0, .inr (10, [.ref e0, .ref d0, .ref v0, .ref t0, .ref n0, .ref s0, .ref z0, .ref g0, .ref h0, .ref o0, .ref j0, .ref j1, .ref j2, .ref j3, .int 0, .int (-1), .int (-1), .int (-1)])), (t0, .inr (8, [.int 0, .ref t1, .ref t2, .ref t8, .ref t11, .int 1, .int 0, .int 0, .int 0])), (t2, .inr (1, [.int 0, .ref t3, .ref t4, .ref t5, .ref t6, .ref t7]))]) [0, 2, 1] (by decide) rfl
  exact g_iret hx hb hr rfl hlocks hK (fun _ => 0) hP hD hS rfl dX12_debt_43 ⟨Nat.le_of_ble_eq_true rfl, Nat.le_of_ble_eq_true rfl⟩
set_option maxHeartbeats 4000000 in
set_option maxRecDepth 100000 in
theorem cM_price (l : Launch) (D : va_G) (k : Nat → ClassId) (rm0 : Nat) (e0 : Nat) (d0 : Nat) (v0 : Nat) (t0 : Nat) (n0 : Nat) (s0 : Nat) (z0 : Nat) (g0 : Nat) (h0 : Nat) (o0 : Nat) (j0 : Nat) (j1 : Nat) (j2 : Nat) (j3 : Nat) (t1 : Nat) (t2 : Nat) (t3 : Nat) (t4 : Nat) (t5 : Nat) (t6 : Nat) (t7 : Nat) (t8 : Nat) (t11 : Nat) (p0 : Int32) (p1 : Int32) : g_Ci l yX12_price wsX12_price ({ frames := 1, cells := 0, slots := 0, locals := 21 }) D k g_E0 [.ref rm0, .int p0, .int p1] [(rm0, .inr (10, [.ref e0, .ref d0, .ref v0, .ref t0, .ref n0, .ref s0, .ref z0, .ref g0, .ref h0, .ref o0, .ref j0, .ref j1, .ref j2, .ref j3, .int 0, .int (-1), .int (-1), .int (-1)])), (t0, .inr (8, [.int 0, .ref t1, .ref t2, .ref t8, .ref t11, .int 1, .int 0, .int 0, .int 0])), (t2, .inr (1, [.int 0, .ref t3, .ref t4, .ref t5, .ref t6, .ref t7]))] (-1) (fun u => [(rm0, .inr (10, [.ref e0, .ref d0, .ref v0, .ref t0, .ref n0, .ref s0, .ref z0, .ref g0, .ref h0, .ref o0, .ref j0, .ref j1, .ref j2, .ref j3, .int 0, .int (-1), .int (-1), .int (-1)])), (t0, .inr (8, [.int 0, .ref t1, .ref t2, .ref t8, .ref t11, .int 1, .int 0, .int 0, .int 0])), (t2, .inr (1, [.int 0, .ref t3, .ref t4, .ref t5, .ref t6, .ref t7]))]) 0 0 := by
  intro sz
  refine Met.ofW (cc := cX12_price) (maxL := 6) (ret := (some .int)) (by decide) rfl ?_
  intro p e s m args below meth c s₁ B hml hv
  obtain ⟨rfl, hsz, hP, hK, hD0, hE⟩ := hv
  have hx := B.exec
  have hb := B.bytes
  have hr := B.returns
  have hts := atoms_spec (ws := wsX12_price) B.pre
  have hown : s.vm.findClass RX12 = some m.cls := findClass_of_methodNamed B.named
  have hlocks := B.notSynchronized
  subst hsz
  have hD := hD0.self (sz := s.heap.size)
  generalize hAe : va_A [(rm0, .inr (10, [.ref e0, .ref d0, .ref v0, .ref t0, .ref n0, .ref s0, .ref z0, .ref g0, .ref h0, .ref o0, .ref j0, .ref j1, .ref j2, .ref j3, .int 0, .int (-1), .int (-1), .int (-1)])), (t0, .inr (8, [.int 0, .ref t1, .ref t2, .ref t8, .ref t11, .int 1, .int 0, .int 0, .int 0])), (t2, .inr (1, [.int 0, .ref t3, .ref t4, .ref t5, .ref t6, .ref t7]))] s.heap.size = A at hD ⊢
  have hA : ∀ q : Nat, s.heap.size ≤ q → A q := fun q h => by rw [← hAe]; exact Or.inr h
  have hS : va_S A s.heap s.heap [] := va_S.rf
  have hP : va_P D vwCl [(rm0, .inr (10, [.ref e0, .ref d0, .ref v0, .ref t0, .ref n0, .ref s0, .ref z0, .ref g0, .ref h0, .ref o0, .ref j0, .ref j1, .ref j2, .ref j3, .int 0, .int (-1), .int (-1), .int (-1)])), (t0, .inr (8, [.int 0, .ref t1, .ref t2, .ref t8, .ref t11, .int 1, .int 0, .int 0, .int 0])), (t2, .inr (1, [.int 0, .ref t3, .ref t4, .ref t5, .ref t6, .ref t7]))] s.heap := hP
  have hl := lv_entry ([.ref rm0, .int p0, .int p1]) (n := 6) (Nat.le_of_ble_eq_true rfl)
  rw [lg_entry_eq]
  generalize (lg_sl ([.ref rm0, .int p0, .int p1]) ++ List.replicate (6 - (lg_sl ([.ref rm0, .int p0, .int p1])).length) Slot.unset).toArray = ls at hl ⊢
  have hl : lv_has ls 6 [(0, .ref rm0), (1, .int p0), (2, .int p1)] := hl
  refine lv_aload_n hx hb dX12_price_0 rfl (lv_at hl 0 rfl) ?_
  refine va_get (D := D) (ci := 10) (v := .ref t0) (C := RX12) (T := TX12) (N := 18) hx hb hts inX12_price_X12 hown hK hP 0 rfl rfl 3 (by decide) (hts (.fieldLink RX12 37 "RungMoney" "town" "LRungMoney$Town;") (by decide +kernel)) (fun _ h9 => h9) rfl dX12_price_1 ?_
  refine lv_iload_n hx hb dX12_price_4 rfl (lv_at hl 1 rfl) ?_
  refine g_iV (As := [.int p0]) (rest := []) (wr := [(rm0, .inr (10, [.ref e0, .ref d0, .ref v0, .ref t0, .ref n0, .ref s0, .ref z0, .ref g0, .ref h0, .ref o0, .ref j0, .ref j1, .ref j2, .ref j3, .int 0, .int (-1), .int (-1), .int (-1)])), (t2, .inr (1, [.int 0, .ref t3, .ref t4, .ref t5, .ref t6, .ref t7]))]) ⟨hx, hb, hml, hown, hts⟩ (cT_hasMan l D k t0 t1 t2 t8 t11 p0) (cwV 1 hts gX12_price_X10_hasMan rfl rfl rfl (by decide +kernel) ⟨Nat.le_of_ble_eq_true rfl, Nat.le_of_ble_eq_true rfl⟩) g_E0_ok (fun _ _ _ => trivial) hK hP hD hS hA 1 8 rfl rfl rfl [1] [0, 2] rfl rfl (by decide) rfl hl.1 rfl (Nat.le_of_ble_eq_true rfl) dX12_price_5 ⟨Nat.le_of_ble_eq_true rfl, Nat.le_of_ble_eq_true rfl⟩ (fun u1 H locs hP hD hS => ?_)
  have hP : va_P D vwCl [(rm0, .inr (10, [.ref e0, .ref d0, .ref v0, .ref t0, .ref n0, .ref s0, .ref z0, .ref g0, .ref h0, .ref o0, .ref j0, .ref j1, .ref j2, .ref j3, .int 0, .int (-1), .int (-1), .int (-1)])), (t2, .inr (1, [.int 0, .ref t3, .ref t4, .ref t5, .ref t6, .ref t7])), (t0, .inr (8, [.int 0, .ref t1, .ref t2, .ref t8, .ref t11, .int 1, .int 0, .int 0, .int 0]))] H := hP
  have hD : va_D A [(rm0, .inr (10, [.ref e0, .ref d0, .ref v0, .ref t0, .ref n0, .ref s0, .ref z0, .ref g0, .ref h0, .ref o0, .ref j0, .ref j1, .ref j2, .ref j3, .int 0, .int (-1), .int (-1), .int (-1)])), (t2, .inr (1, [.int 0, .ref t3, .ref t4, .ref t5, .ref t6, .ref t7])), (t0, .inr (8, [.int 0, .ref t1, .ref t2, .ref t8, .ref t11, .int 1, .int 0, .int 0, .int 0]))] := hD
  refine lv_if_eq (tgt := 23) hx hb dX12_price_8 (by decide) (fun _ => ?_) (fun h9 => absurd (by decide) h9)
  refine lv_iconst (v := (-1)) hx hb dX12_price_23 (by decide) ?_
  have hP := hP.sub (ws' := [(rm0, .inr (10, [.ref e0, .ref d0, .ref v0, .ref t0, .ref n0, .ref s0, .ref z0, .ref g0, .ref h0, .ref o0, .ref j0, .ref j1, .ref j2, .ref j3, .int 0, .int (-1), .int (-1), .int (-1)])), (t0, .inr (8, [.int 0, .ref t1, .ref t2, .ref t8, .ref t11, .int 1, .int 0, .int 0, .int 0])), (t2, .inr (1, [.int 0, .ref t3, .ref t4, .ref t5, .ref t6, .ref t7]))]) [0, 2, 1] rfl
  have hD := hD.sub (ws' := [(rm0, .inr (10, [.ref e0, .ref d0, .ref v0, .ref t0, .ref n0, .ref s0, .ref z0, .ref g0, .ref h0, .ref o0, .ref j0, .ref j1, .ref j2, .ref j3, .int 0, .int (-1), .int (-1), .int (-1)])), (t0, .inr (8, [.int 0, .ref t1, .ref t2, .ref t8, .ref t11, .int 1, .int 0, .int 0, .int 0])), (t2, .inr (1, [.int 0, .ref t3, .ref t4, .ref t5, .ref t6, .ref t7]))]) [0, 2, 1] (by decide) rfl
  exact g_iret hx hb hr rfl hlocks hK (fun _ => 0) hP hD hS rfl dX12_price_24 ⟨Nat.le_of_ble_eq_true rfl, Nat.le_of_ble_eq_true rfl⟩
set_option maxHeartbeats 4000000 in
set_option maxRecDepth 100000 in
theorem cM_fire (l : Launch) (D : va_G) (k : Nat → ClassId) (rm0 : Nat) (e0 : Nat) (d0 : Nat) (v0 : Nat) (t0 : Nat) (n0 : Nat) (s0 : Nat) (z0 : Nat) (g0 : Nat) (h0 : Nat) (o0 : Nat) (j0 : Nat) (j1 : Nat) (j2 : Nat) (j3 : Nat) (t1 : Nat) (t2 : Nat) (t3 : Nat) (t4 : Nat) (t5 : Nat) (t6 : Nat) (t7 : Nat) (t8 : Nat) (t11 : Nat) (p0 : Int32) (p1 : Int32) : g_Ci l yX12_fire wsX12_fire ({ frames := 1, cells := 0, slots := 0, locals := 21 }) D k g_E0 [.ref rm0, .int p0, .int p1] [(rm0, .inr (10, [.ref e0, .ref d0, .ref v0, .ref t0, .ref n0, .ref s0, .ref z0, .ref g0, .ref h0, .ref o0, .ref j0, .ref j1, .ref j2, .ref j3, .int 0, .int (-1), .int (-1), .int (-1)])), (t0, .inr (8, [.int 0, .ref t1, .ref t2, .ref t8, .ref t11, .int 1, .int 0, .int 0, .int 0])), (t2, .inr (1, [.int 0, .ref t3, .ref t4, .ref t5, .ref t6, .ref t7]))] (-1) (fun u => [(rm0, .inr (10, [.ref e0, .ref d0, .ref v0, .ref t0, .ref n0, .ref s0, .ref z0, .ref g0, .ref h0, .ref o0, .ref j0, .ref j1, .ref j2, .ref j3, .int 0, .int (-1), .int (-1), .int (-1)])), (t0, .inr (8, [.int 0, .ref t1, .ref t2, .ref t8, .ref t11, .int 1, .int 0, .int 0, .int 0])), (t2, .inr (1, [.int 0, .ref t3, .ref t4, .ref t5, .ref t6, .ref t7]))]) 0 0 := by
  intro sz
  refine Met.ofW (cc := cX12_fire) (maxL := 4) (ret := (some .int)) (by decide) rfl ?_
  intro p e s m args below meth c s₁ B hml hv
  obtain ⟨rfl, hsz, hP, hK, hD0, hE⟩ := hv
  have hx := B.exec
  have hb := B.bytes
  have hr := B.returns
  have hts := atoms_spec (ws := wsX12_fire) B.pre
  have hown : s.vm.findClass RX12 = some m.cls := findClass_of_methodNamed B.named
  have hlocks := B.notSynchronized
  subst hsz
  have hD := hD0.self (sz := s.heap.size)
  generalize hAe : va_A [(rm0, .inr (10, [.ref e0, .ref d0, .ref v0, .ref t0, .ref n0, .ref s0, .ref z0, .ref g0, .ref h0, .ref o0, .ref j0, .ref j1, .ref j2, .ref j3, .int 0, .int (-1), .int (-1), .int (-1)])), (t0, .inr (8, [.int 0, .ref t1, .ref t2, .ref t8, .ref t11, .int 1, .int 0, .int 0, .int 0])), (t2, .inr (1, [.int 0, .ref t3, .ref t4, .ref t5, .ref t6, .ref t7]))] s.heap.size = A at hD ⊢
  have hA : ∀ q : Nat, s.heap.size ≤ q → A q := fun q h => by rw [← hAe]; exact Or.inr h
  have hS : va_S A s.heap s.heap [] := va_S.rf
  have hP : va_P D vwCl [(rm0, .inr (10, [.ref e0, .ref d0, .ref v0, .ref t0, .ref n0, .ref s0, .ref z0, .ref g0, .ref h0, .ref o0, .ref j0, .ref j1, .ref j2, .ref j3, .int 0, .int (-1), .int (-1), .int (-1)])), (t0, .inr (8, [.int 0, .ref t1, .ref t2, .ref t8, .ref t11, .int 1, .int 0, .int 0, .int 0])), (t2, .inr (1, [.int 0, .ref t3, .ref t4, .ref t5, .ref t6, .ref t7]))] s.heap := hP
  have hl := lv_entry ([.ref rm0, .int p0, .int p1]) (n := 4) (Nat.le_of_ble_eq_true rfl)
  rw [lg_entry_eq]
  generalize (lg_sl ([.ref rm0, .int p0, .int p1]) ++ List.replicate (4 - (lg_sl ([.ref rm0, .int p0, .int p1])).length) Slot.unset).toArray = ls at hl ⊢
  have hl : lv_has ls 4 [(0, .ref rm0), (1, .int p0), (2, .int p1)] := hl
  refine lv_aload_n hx hb dX12_fire_0 rfl (lv_at hl 0 rfl) ?_
  refine va_get (D := D) (ci := 10) (v := .ref t0) (C := RX12) (T := TX12) (N := 18) hx hb hts inX12_fire_X12 hown hK hP 0 rfl rfl 3 (by decide) (hts (.fieldLink RX12 37 "RungMoney" "town" "LRungMoney$Town;") (by decide +kernel)) (fun _ h9 => h9) rfl dX12_fire_1 ?_
  refine lv_iload_n hx hb dX12_fire_4 rfl (lv_at hl 1 rfl) ?_
  refine g_iV (As := [.int p0]) (rest := []) (wr := [(rm0, .inr (10, [.ref e0, .ref d0, .ref v0, .ref t0, .ref n0, .ref s0, .ref z0, .ref g0, .ref h0, .ref o0, .ref j0, .ref j1, .ref j2, .ref j3, .int 0, .int (-1), .int (-1), .int (-1)])), (t2, .inr (1, [.int 0, .ref t3, .ref t4, .ref t5, .ref t6, .ref t7]))]) ⟨hx, hb, hml, hown, hts⟩ (cT_hasMan l D k t0 t1 t2 t8 t11 p0) (cwV 1 hts gX12_fire_X10_hasMan rfl rfl rfl (by decide +kernel) ⟨Nat.le_of_ble_eq_true rfl, Nat.le_of_ble_eq_true rfl⟩) g_E0_ok (fun _ _ _ => trivial) hK hP hD hS hA 1 8 rfl rfl rfl [1] [0, 2] rfl rfl (by decide) rfl hl.1 rfl (Nat.le_of_ble_eq_true rfl) dX12_fire_5 ⟨Nat.le_of_ble_eq_true rfl, Nat.le_of_ble_eq_true rfl⟩ (fun u1 H locs hP hD hS => ?_)
  have hP : va_P D vwCl [(rm0, .inr (10, [.ref e0, .ref d0, .ref v0, .ref t0, .ref n0, .ref s0, .ref z0, .ref g0, .ref h0, .ref o0, .ref j0, .ref j1, .ref j2, .ref j3, .int 0, .int (-1), .int (-1), .int (-1)])), (t2, .inr (1, [.int 0, .ref t3, .ref t4, .ref t5, .ref t6, .ref t7])), (t0, .inr (8, [.int 0, .ref t1, .ref t2, .ref t8, .ref t11, .int 1, .int 0, .int 0, .int 0]))] H := hP
  have hD : va_D A [(rm0, .inr (10, [.ref e0, .ref d0, .ref v0, .ref t0, .ref n0, .ref s0, .ref z0, .ref g0, .ref h0, .ref o0, .ref j0, .ref j1, .ref j2, .ref j3, .int 0, .int (-1), .int (-1), .int (-1)])), (t2, .inr (1, [.int 0, .ref t3, .ref t4, .ref t5, .ref t6, .ref t7])), (t0, .inr (8, [.int 0, .ref t1, .ref t2, .ref t8, .ref t11, .int 1, .int 0, .int 0, .int 0]))] := hD
  refine lv_if_eq (tgt := 23) hx hb dX12_fire_8 (by decide) (fun _ => ?_) (fun h9 => absurd (by decide) h9)
  refine lv_iconst (v := (-1)) hx hb dX12_fire_23 (by decide) ?_
  have hP := hP.sub (ws' := [(rm0, .inr (10, [.ref e0, .ref d0, .ref v0, .ref t0, .ref n0, .ref s0, .ref z0, .ref g0, .ref h0, .ref o0, .ref j0, .ref j1, .ref j2, .ref j3, .int 0, .int (-1), .int (-1), .int (-1)])), (t0, .inr (8, [.int 0, .ref t1, .ref t2, .ref t8, .ref t11, .int 1, .int 0, .int 0, .int 0])), (t2, .inr (1, [.int 0, .ref t3, .ref t4, .ref t5, .ref t6, .ref t7]))]) [0, 2, 1] rfl
  have hD := hD.sub (ws' := [(rm0, .inr (10, [.ref e0, .ref d0, .ref v0, .ref t0, .ref n0, .ref s0, .ref z0, .ref g0, .ref h0, .ref o0, .ref j0, .ref j1, .ref j2, .ref j3, .int 0, .int (-1), .int (-1), .int (-1)])), (t0, .inr (8, [.int 0, .ref t1, .ref t2, .ref t8, .ref t11, .int 1, .int 0, .int 0, .int 0])), (t2, .inr (1, [.int 0, .ref t3, .ref t4, .ref t5, .ref t6, .ref t7]))]) [0, 2, 1] (by decide) rfl
  exact g_iret hx hb hr rfl hlocks hK (fun _ => 0) hP hD hS rfl dX12_fire_24 ⟨Nat.le_of_ble_eq_true rfl, Nat.le_of_ble_eq_true rfl⟩
set_option maxHeartbeats 4000000 in
set_option maxRecDepth 100000 in
theorem cM_odds (l : Launch) (D : va_G) (k : Nat → ClassId) (rm0 : Nat) (e0 : Nat) (d0 : Nat) (v0 : Nat) (t0 : Nat) (n0 : Nat) (s0 : Nat) (z0 : Nat) (g0 : Nat) (h0 : Nat) (o0 : Nat) (j0 : Nat) (j1 : Nat) (j2 : Nat) (j3 : Nat) (t1 : Nat) (t2 : Nat) (t3 : Nat) (t4 : Nat) (t5 : Nat) (t6 : Nat) (t7 : Nat) (t8 : Nat) (t11 : Nat) (p0 : Int32) (p1 : Int32) (p2 : Int32) (p3 : Int32) : g_Ci l yX12_odds wsX12_odds ({ frames := 1, cells := 0, slots := 0, locals := 21 }) D k g_E0 [.ref rm0, .int p0, .int p1, .int p2, .int p3] [(rm0, .inr (10, [.ref e0, .ref d0, .ref v0, .ref t0, .ref n0, .ref s0, .ref z0, .ref g0, .ref h0, .ref o0, .ref j0, .ref j1, .ref j2, .ref j3, .int 0, .int (-1), .int (-1), .int (-1)])), (t0, .inr (8, [.int 0, .ref t1, .ref t2, .ref t8, .ref t11, .int 1, .int 0, .int 0, .int 0])), (t2, .inr (1, [.int 0, .ref t3, .ref t4, .ref t5, .ref t6, .ref t7]))] (-1) (fun u => [(rm0, .inr (10, [.ref e0, .ref d0, .ref v0, .ref t0, .ref n0, .ref s0, .ref z0, .ref g0, .ref h0, .ref o0, .ref j0, .ref j1, .ref j2, .ref j3, .int 0, .int (-1), .int (-1), .int (-1)])), (t0, .inr (8, [.int 0, .ref t1, .ref t2, .ref t8, .ref t11, .int 1, .int 0, .int 0, .int 0])), (t2, .inr (1, [.int 0, .ref t3, .ref t4, .ref t5, .ref t6, .ref t7]))]) 0 0 := by
  intro sz
  refine Met.ofW (cc := cX12_odds) (maxL := 7) (ret := (some .int)) (by decide) rfl ?_
  intro p e s m args below meth c s₁ B hml hv
  obtain ⟨rfl, hsz, hP, hK, hD0, hE⟩ := hv
  have hx := B.exec
  have hb := B.bytes
  have hr := B.returns
  have hts := atoms_spec (ws := wsX12_odds) B.pre
  have hown : s.vm.findClass RX12 = some m.cls := findClass_of_methodNamed B.named
  have hlocks := B.notSynchronized
  subst hsz
  have hD := hD0.self (sz := s.heap.size)
  generalize hAe : va_A [(rm0, .inr (10, [.ref e0, .ref d0, .ref v0, .ref t0, .ref n0, .ref s0, .ref z0, .ref g0, .ref h0, .ref o0, .ref j0, .ref j1, .ref j2, .ref j3, .int 0, .int (-1), .int (-1), .int (-1)])), (t0, .inr (8, [.int 0, .ref t1, .ref t2, .ref t8, .ref t11, .int 1, .int 0, .int 0, .int 0])), (t2, .inr (1, [.int 0, .ref t3, .ref t4, .ref t5, .ref t6, .ref t7]))] s.heap.size = A at hD ⊢
  have hA : ∀ q : Nat, s.heap.size ≤ q → A q := fun q h => by rw [← hAe]; exact Or.inr h
  have hS : va_S A s.heap s.heap [] := va_S.rf
  have hP : va_P D vwCl [(rm0, .inr (10, [.ref e0, .ref d0, .ref v0, .ref t0, .ref n0, .ref s0, .ref z0, .ref g0, .ref h0, .ref o0, .ref j0, .ref j1, .ref j2, .ref j3, .int 0, .int (-1), .int (-1), .int (-1)])), (t0, .inr (8, [.int 0, .ref t1, .ref t2, .ref t8, .ref t11, .int 1, .int 0, .int 0, .int 0])), (t2, .inr (1, [.int 0, .ref t3, .ref t4, .ref t5, .ref t6, .ref t7]))] s.heap := hP
  have hl := lv_entry ([.ref rm0, .int p0, .int p1, .int p2, .int p3]) (n := 7) (Nat.le_of_ble_eq_true rfl)
  rw [lg_entry_eq]
  generalize (lg_sl ([.ref rm0, .int p0, .int p1, .int p2, .int p3]) ++ List.replicate (7 - (lg_sl ([.ref rm0, .int p0, .int p1, .int p2, .int p3])).length) Slot.unset).toArray = ls at hl ⊢
  have hl : lv_has ls 7 [(0, .ref rm0), (1, .int p0), (2, .int p1), (3, .int p2), (4, .int p3)] := hl
  refine lv_aload_n hx hb dX12_odds_0 rfl (lv_at hl 0 rfl) ?_
  refine va_get (D := D) (ci := 10) (v := .ref t0) (C := RX12) (T := TX12) (N := 18) hx hb hts inX12_odds_X12 hown hK hP 0 rfl rfl 3 (by decide) (hts (.fieldLink RX12 37 "RungMoney" "town" "LRungMoney$Town;") (by decide +kernel)) (fun _ h9 => h9) rfl dX12_odds_1 ?_
  refine lv_iload_n hx hb dX12_odds_4 rfl (lv_at hl 1 rfl) ?_
  refine g_iV (As := [.int p0]) (rest := []) (wr := [(rm0, .inr (10, [.ref e0, .ref d0, .ref v0, .ref t0, .ref n0, .ref s0, .ref z0, .ref g0, .ref h0, .ref o0, .ref j0, .ref j1, .ref j2, .ref j3, .int 0, .int (-1), .int (-1), .int (-1)])), (t2, .inr (1, [.int 0, .ref t3, .ref t4, .ref t5, .ref t6, .ref t7]))]) ⟨hx, hb, hml, hown, hts⟩ (cT_hasMan l D k t0 t1 t2 t8 t11 p0) (cwV 1 hts gX12_odds_X10_hasMan rfl rfl rfl (by decide +kernel) ⟨Nat.le_of_ble_eq_true rfl, Nat.le_of_ble_eq_true rfl⟩) g_E0_ok (fun _ _ _ => trivial) hK hP hD hS hA 1 8 rfl rfl rfl [1] [0, 2] rfl rfl (by decide) rfl hl.1 rfl (Nat.le_of_ble_eq_true rfl) dX12_odds_5 ⟨Nat.le_of_ble_eq_true rfl, Nat.le_of_ble_eq_true rfl⟩ (fun u1 H locs hP hD hS => ?_)
  have hP : va_P D vwCl [(rm0, .inr (10, [.ref e0, .ref d0, .ref v0, .ref t0, .ref n0, .ref s0, .ref z0, .ref g0, .ref h0, .ref o0, .ref j0, .ref j1, .ref j2, .ref j3, .int 0, .int (-1), .int (-1), .int (-1)])), (t2, .inr (1, [.int 0, .ref t3, .ref t4, .ref t5, .ref t6, .ref t7])), (t0, .inr (8, [.int 0, .ref t1, .ref t2, .ref t8, .ref t11, .int 1, .int 0, .int 0, .int 0]))] H := hP
  have hD : va_D A [(rm0, .inr (10, [.ref e0, .ref d0, .ref v0, .ref t0, .ref n0, .ref s0, .ref z0, .ref g0, .ref h0, .ref o0, .ref j0, .ref j1, .ref j2, .ref j3, .int 0, .int (-1), .int (-1), .int (-1)])), (t2, .inr (1, [.int 0, .ref t3, .ref t4, .ref t5, .ref t6, .ref t7])), (t0, .inr (8, [.int 0, .ref t1, .ref t2, .ref t8, .ref t11, .int 1, .int 0, .int 0, .int 0]))] := hD
  refine lv_if_eq (tgt := 33) hx hb dX12_odds_8 (by decide) (fun _ => ?_) (fun h9 => absurd (by decide) h9)
  refine lv_iconst (v := (-1)) hx hb dX12_odds_33 (by decide) ?_
  have hP := hP.sub (ws' := [(rm0, .inr (10, [.ref e0, .ref d0, .ref v0, .ref t0, .ref n0, .ref s0, .ref z0, .ref g0, .ref h0, .ref o0, .ref j0, .ref j1, .ref j2, .ref j3, .int 0, .int (-1), .int (-1), .int (-1)])), (t0, .inr (8, [.int 0, .ref t1, .ref t2, .ref t8, .ref t11, .int 1, .int 0, .int 0, .int 0])), (t2, .inr (1, [.int 0, .ref t3, .ref t4, .ref t5, .ref t6, .ref t7]))]) [0, 2, 1] rfl
  have hD := hD.sub (ws' := [(rm0, .inr (10, [.ref e0, .ref d0, .ref v0, .ref t0, .ref n0, .ref s0, .ref z0, .ref g0, .ref h0, .ref o0, .ref j0, .ref j1, .ref j2, .ref j3, .int 0, .int (-1), .int (-1), .int (-1)])), (t0, .inr (8, [.int 0, .ref t1, .ref t2, .ref t8, .ref t11, .int 1, .int 0, .int 0, .int 0])), (t2, .inr (1, [.int 0, .ref t3, .ref t4, .ref t5, .ref t6, .ref t7]))]) [0, 2, 1] (by decide) rfl
  exact g_iret hx hb hr rfl hlocks hK (fun _ => 0) hP hD hS rfl dX12_odds_34 ⟨Nat.le_of_ble_eq_true rfl, Nat.le_of_ble_eq_true rfl⟩
set_option maxHeartbeats 4000000 in
set_option maxRecDepth 100000 in
theorem cM_height (l : Launch) (D : va_G) (k : Nat → ClassId) (rm0 : Nat) (e0 : Nat) (d0 : Nat) (v0 : Nat) (t0 : Nat) (n0 : Nat) (s0 : Nat) (z0 : Nat) (g0 : Nat) (h0 : Nat) (o0 : Nat) (j0 : Nat) (j1 : Nat) (j2 : Nat) (j3 : Nat) (t1 : Nat) (t2 : Nat) (t3 : Nat) (t4 : Nat) (t5 : Nat) (t6 : Nat) (t7 : Nat) (t8 : Nat) (t11 : Nat) (p0 : Int32) : g_Ci l yX12_height wsX12_height ({ frames := 1, cells := 0, slots := 0, locals := 25 }) D k g_E0 [.ref rm0, .int p0] [(rm0, .inr (10, [.ref e0, .ref d0, .ref v0, .ref t0, .ref n0, .ref s0, .ref z0, .ref g0, .ref h0, .ref o0, .ref j0, .ref j1, .ref j2, .ref j3, .int 0, .int (-1), .int (-1), .int (-1)])), (t0, .inr (8, [.int 0, .ref t1, .ref t2, .ref t8, .ref t11, .int 1, .int 0, .int 0, .int 0])), (t2, .inr (1, [.int 0, .ref t3, .ref t4, .ref t5, .ref t6, .ref t7]))] (-1) (fun u => [(rm0, .inr (10, [.ref e0, .ref d0, .ref v0, .ref t0, .ref n0, .ref s0, .ref z0, .ref g0, .ref h0, .ref o0, .ref j0, .ref j1, .ref j2, .ref j3, .int 0, .int (-1), .int (-1), .int (-1)])), (t0, .inr (8, [.int 0, .ref t1, .ref t2, .ref t8, .ref t11, .int 1, .int 0, .int 0, .int 0])), (t2, .inr (1, [.int 0, .ref t3, .ref t4, .ref t5, .ref t6, .ref t7]))]) 0 0 := by
  intro sz
  refine Met.ofW (cc := cX12_height) (maxL := 2) (ret := (some .int)) (by decide) rfl ?_
  intro p e s m args below meth c s₁ B hml hv
  obtain ⟨rfl, hsz, hP, hK, hD0, hE⟩ := hv
  have hx := B.exec
  have hb := B.bytes
  have hr := B.returns
  have hts := atoms_spec (ws := wsX12_height) B.pre
  have hown : s.vm.findClass RX12 = some m.cls := findClass_of_methodNamed B.named
  have hlocks := B.notSynchronized
  subst hsz
  have hD := hD0.self (sz := s.heap.size)
  generalize hAe : va_A [(rm0, .inr (10, [.ref e0, .ref d0, .ref v0, .ref t0, .ref n0, .ref s0, .ref z0, .ref g0, .ref h0, .ref o0, .ref j0, .ref j1, .ref j2, .ref j3, .int 0, .int (-1), .int (-1), .int (-1)])), (t0, .inr (8, [.int 0, .ref t1, .ref t2, .ref t8, .ref t11, .int 1, .int 0, .int 0, .int 0])), (t2, .inr (1, [.int 0, .ref t3, .ref t4, .ref t5, .ref t6, .ref t7]))] s.heap.size = A at hD ⊢
  have hA : ∀ q : Nat, s.heap.size ≤ q → A q := fun q h => by rw [← hAe]; exact Or.inr h
  have hS : va_S A s.heap s.heap [] := va_S.rf
  have hP : va_P D vwCl [(rm0, .inr (10, [.ref e0, .ref d0, .ref v0, .ref t0, .ref n0, .ref s0, .ref z0, .ref g0, .ref h0, .ref o0, .ref j0, .ref j1, .ref j2, .ref j3, .int 0, .int (-1), .int (-1), .int (-1)])), (t0, .inr (8, [.int 0, .ref t1, .ref t2, .ref t8, .ref t11, .int 1, .int 0, .int 0, .int 0])), (t2, .inr (1, [.int 0, .ref t3, .ref t4, .ref t5, .ref t6, .ref t7]))] s.heap := hP
  have hl := lv_entry ([.ref rm0, .int p0]) (n := 2) (Nat.le_of_ble_eq_true rfl)
  rw [lg_entry_eq]
  generalize (lg_sl ([.ref rm0, .int p0]) ++ List.replicate (2 - (lg_sl ([.ref rm0, .int p0])).length) Slot.unset).toArray = ls at hl ⊢
  have hl : lv_has ls 2 [(0, .ref rm0), (1, .int p0)] := hl
  refine lv_iload_n hx hb dX12_height_0 rfl (lv_at hl 1 rfl) ?_
  refine lv_iconst (v := 1) hx hb dX12_height_1 (by decide) ?_
  refine lv_icmp_lt (tgt := 12) hx hb dX12_height_2 (by decide) (fun c1 => ?_) (fun c1 => ?_)
  · refine lv_iconst (v := (-1)) hx hb dX12_height_12 (by decide) ?_
    refine lv_goto (tgt := 27) hx hb dX12_height_13 (by decide) ?_
    have hP := hP.sub (ws' := [(rm0, .inr (10, [.ref e0, .ref d0, .ref v0, .ref t0, .ref n0, .ref s0, .ref z0, .ref g0, .ref h0, .ref o0, .ref j0, .ref j1, .ref j2, .ref j3, .int 0, .int (-1), .int (-1), .int (-1)])), (t0, .inr (8, [.int 0, .ref t1, .ref t2, .ref t8, .ref t11, .int 1, .int 0, .int 0, .int 0])), (t2, .inr (1, [.int 0, .ref t3, .ref t4, .ref t5, .ref t6, .ref t7]))]) [0, 1, 2] rfl
    have hD := hD.sub (ws' := [(rm0, .inr (10, [.ref e0, .ref d0, .ref v0, .ref t0, .ref n0, .ref s0, .ref z0, .ref g0, .ref h0, .ref o0, .ref j0, .ref j1, .ref j2, .ref j3, .int 0, .int (-1), .int (-1), .int (-1)])), (t0, .inr (8, [.int 0, .ref t1, .ref t2, .ref t8, .ref t11, .int 1, .int 0, .int 0, .int 0])), (t2, .inr (1, [.int 0, .ref t3, .ref t4, .ref t5, .ref t6, .ref t7]))]) [0, 1, 2] (by decide) rfl
    exact g_iret hx hb hr rfl hlocks hK (fun _ => 0) hP hD hS rfl dX12_height_27 ⟨Nat.le_of_ble_eq_true rfl, Nat.le_of_ble_eq_true rfl⟩
  · refine lv_iload_n hx hb dX12_height_5 rfl (lv_at hl 1 rfl) ?_
    refine lv_sipush (v := 500) hx hb dX12_height_6 (by decide) ?_
    refine lv_icmp_le (tgt := 16) hx hb dX12_height_9 (by decide) (fun c2 => ?_) (fun c2 => ?_)
    · refine lv_aload_n hx hb dX12_height_16 rfl (lv_at hl 0 rfl) ?_
      refine va_get (D := D) (ci := 10) (v := .ref t0) (C := RX12) (T := TX12) (N := 18) hx hb hts inX12_height_X12 hown hK hP 0 rfl rfl 3 (by decide) (hts (.fieldLink RX12 37 "RungMoney" "town" "LRungMoney$Town;") (by decide +kernel)) (fun _ h9 => h9) rfl dX12_height_17 ?_
      refine va_get (D := D) (ci := 8) (v := .ref t2) (C := RX10) (T := TX10) (N := 9) hx hb hts inX12_height_X10 hown hK hP 1 rfl rfl 2 (by decide) (hts (.fieldLink RX12 142 "RungMoney$Town" "ladders" "LRungMoney$Ladders;") (by decide +kernel)) (fun _ h9 => h9) rfl dX12_height_20 ?_
      refine lv_iload_n hx hb dX12_height_23 rfl (lv_at hl 1 rfl) ?_
      refine g_iV (As := [.int p0]) (rest := []) (wr := [(rm0, .inr (10, [.ref e0, .ref d0, .ref v0, .ref t0, .ref n0, .ref s0, .ref z0, .ref g0, .ref h0, .ref o0, .ref j0, .ref j1, .ref j2, .ref j3, .int 0, .int (-1), .int (-1), .int (-1)])), (t0, .inr (8, [.int 0, .ref t1, .ref t2, .ref t8, .ref t11, .int 1, .int 0, .int 0, .int 0]))]) ⟨hx, hb, hml, hown, hts⟩ (cL_fewestFor l D k t2 t3 t4 t5 t6 t7 p0) (cwV 1 hts gX12_height_X3_fewestFor rfl rfl rfl (by decide +kernel) ⟨Nat.le_of_ble_eq_true rfl, Nat.le_of_ble_eq_true rfl⟩) g_E0_ok (fun _ _ _ => trivial) hK hP hD hS hA 2 1 rfl rfl rfl [2] [0, 1] rfl rfl (by decide) rfl hl.1 rfl (Nat.le_of_ble_eq_true rfl) dX12_height_24 ⟨Nat.le_of_ble_eq_true rfl, Nat.le_of_ble_eq_true rfl⟩ (fun u3 H locs hP hD hS => ?_)
      have hP : va_P D vwCl [(rm0, .inr (10, [.ref e0, .ref d0, .ref v0, .ref t0, .ref n0, .ref s0, .ref z0, .ref g0, .ref h0, .ref o0, .ref j0, .ref j1, .ref j2, .ref j3, .int 0, .int (-1), .int (-1), .int (-1)])), (t0, .inr (8, [.int 0, .ref t1, .ref t2, .ref t8, .ref t11, .int 1, .int 0, .int 0, .int 0])), (t2, .inr (1, [.int 0, .ref t3, .ref t4, .ref t5, .ref t6, .ref t7]))] H := hP
      have hD : va_D A [(rm0, .inr (10, [.ref e0, .ref d0, .ref v0, .ref t0, .ref n0, .ref s0, .ref z0, .ref g0, .ref h0, .ref o0, .ref j0, .ref j1, .ref j2, .ref j3, .int 0, .int (-1), .int (-1), .int (-1)])), (t0, .inr (8, [.int 0, .ref t1, .ref t2, .ref t8, .ref t11, .int 1, .int 0, .int 0, .int 0])), (t2, .inr (1, [.int 0, .ref t3, .ref t4, .ref t5, .ref t6, .ref t7]))] := hD
      have hP := hP.sub (ws' := [(rm0, .inr (10, [.ref e0, .ref d0, .ref v0, .ref t0, .ref n0, .ref s0, .ref z0, .ref g0, .ref h0, .ref o0, .ref j0, .ref j1, .ref j2, .ref j3, .int 0, .int (-1), .int (-1), .int (-1)])), (t0, .inr (8, [.int 0, .ref t1, .ref t2, .ref t8, .ref t11, .int 1, .int 0, .int 0, .int 0])), (t2, .inr (1, [.int 0, .ref t3, .ref t4, .ref t5, .ref t6, .ref t7]))]) [0, 1, 2] rfl
      have hD := hD.sub (ws' := [(rm0, .inr (10, [.ref e0, .ref d0, .ref v0, .ref t0, .ref n0, .ref s0, .ref z0, .ref g0, .ref h0, .ref o0, .ref j0, .ref j1, .ref j2, .ref j3, .int 0, .int (-1), .int (-1), .int (-1)])), (t0, .inr (8, [.int 0, .ref t1, .ref t2, .ref t8, .ref t11, .int 1, .int 0, .int 0, .int 0])), (t2, .inr (1, [.int 0, .ref t3, .ref t4, .ref t5, .ref t6, .ref t7]))]) [0, 1, 2] (by decide) rfl
      exact g_iret hx hb hr rfl hlocks hK (fun _ => 0) hP hD hS rfl dX12_height_27 ⟨Nat.le_of_ble_eq_true rfl, Nat.le_of_ble_eq_true rfl⟩
    · refine lv_iconst (v := (-1)) hx hb dX12_height_12 (by decide) ?_
      refine lv_goto (tgt := 27) hx hb dX12_height_13 (by decide) ?_
      have hP := hP.sub (ws' := [(rm0, .inr (10, [.ref e0, .ref d0, .ref v0, .ref t0, .ref n0, .ref s0, .ref z0, .ref g0, .ref h0, .ref o0, .ref j0, .ref j1, .ref j2, .ref j3, .int 0, .int (-1), .int (-1), .int (-1)])), (t0, .inr (8, [.int 0, .ref t1, .ref t2, .ref t8, .ref t11, .int 1, .int 0, .int 0, .int 0])), (t2, .inr (1, [.int 0, .ref t3, .ref t4, .ref t5, .ref t6, .ref t7]))]) [0, 1, 2] rfl
      have hD := hD.sub (ws' := [(rm0, .inr (10, [.ref e0, .ref d0, .ref v0, .ref t0, .ref n0, .ref s0, .ref z0, .ref g0, .ref h0, .ref o0, .ref j0, .ref j1, .ref j2, .ref j3, .int 0, .int (-1), .int (-1), .int (-1)])), (t0, .inr (8, [.int 0, .ref t1, .ref t2, .ref t8, .ref t11, .int 1, .int 0, .int 0, .int 0])), (t2, .inr (1, [.int 0, .ref t3, .ref t4, .ref t5, .ref t6, .ref t7]))]) [0, 1, 2] (by decide) rfl
      exact g_iret hx hb hr rfl hlocks hK (fun _ => 0) hP hD hS rfl dX12_height_27 ⟨Nat.le_of_ble_eq_true rfl, Nat.le_of_ble_eq_true rfl⟩
set_option maxHeartbeats 4000000 in
set_option maxRecDepth 100000 in
theorem cM_cheapest (l : Launch) (D : va_G) (k : Nat → ClassId) (rm0 : Nat) (e0 : Nat) (d0 : Nat) (v0 : Nat) (t0 : Nat) (n0 : Nat) (s0 : Nat) (z0 : Nat) (g0 : Nat) (h0 : Nat) (o0 : Nat) (j0 : Nat) (j1 : Nat) (j2 : Nat) (j3 : Nat) (t1 : Nat) (t2 : Nat) (t3 : Nat) (t4 : Nat) (t5 : Nat) (t6 : Nat) (t7 : Nat) (t8 : Nat) (t11 : Nat) (p0 : Int32) : g_Ci l yX12_cheapest wsX12_cheapest ({ frames := 1, cells := 0, slots := 0, locals := 24 }) D k g_E0 [.ref rm0, .int p0] [(rm0, .inr (10, [.ref e0, .ref d0, .ref v0, .ref t0, .ref n0, .ref s0, .ref z0, .ref g0, .ref h0, .ref o0, .ref j0, .ref j1, .ref j2, .ref j3, .int 0, .int (-1), .int (-1), .int (-1)])), (t0, .inr (8, [.int 0, .ref t1, .ref t2, .ref t8, .ref t11, .int 1, .int 0, .int 0, .int 0])), (t2, .inr (1, [.int 0, .ref t3, .ref t4, .ref t5, .ref t6, .ref t7]))] (-1) (fun u => [(rm0, .inr (10, [.ref e0, .ref d0, .ref v0, .ref t0, .ref n0, .ref s0, .ref z0, .ref g0, .ref h0, .ref o0, .ref j0, .ref j1, .ref j2, .ref j3, .int 0, .int (-1), .int (-1), .int (-1)])), (t0, .inr (8, [.int 0, .ref t1, .ref t2, .ref t8, .ref t11, .int 1, .int 0, .int 0, .int 0])), (t2, .inr (1, [.int 0, .ref t3, .ref t4, .ref t5, .ref t6, .ref t7]))]) 0 0 := by
  intro sz
  refine Met.ofW (cc := cX12_cheapest) (maxL := 2) (ret := (some .int)) (by decide) rfl ?_
  intro p e s m args below meth c s₁ B hml hv
  obtain ⟨rfl, hsz, hP, hK, hD0, hE⟩ := hv
  have hx := B.exec
  have hb := B.bytes
  have hr := B.returns
  have hts := atoms_spec (ws := wsX12_cheapest) B.pre
  have hown : s.vm.findClass RX12 = some m.cls := findClass_of_methodNamed B.named
  have hlocks := B.notSynchronized
  subst hsz
  have hD := hD0.self (sz := s.heap.size)
  generalize hAe : va_A [(rm0, .inr (10, [.ref e0, .ref d0, .ref v0, .ref t0, .ref n0, .ref s0, .ref z0, .ref g0, .ref h0, .ref o0, .ref j0, .ref j1, .ref j2, .ref j3, .int 0, .int (-1), .int (-1), .int (-1)])), (t0, .inr (8, [.int 0, .ref t1, .ref t2, .ref t8, .ref t11, .int 1, .int 0, .int 0, .int 0])), (t2, .inr (1, [.int 0, .ref t3, .ref t4, .ref t5, .ref t6, .ref t7]))] s.heap.size = A at hD ⊢
  have hA : ∀ q : Nat, s.heap.size ≤ q → A q := fun q h => by rw [← hAe]; exact Or.inr h
  have hS : va_S A s.heap s.heap [] := va_S.rf
  have hP : va_P D vwCl [(rm0, .inr (10, [.ref e0, .ref d0, .ref v0, .ref t0, .ref n0, .ref s0, .ref z0, .ref g0, .ref h0, .ref o0, .ref j0, .ref j1, .ref j2, .ref j3, .int 0, .int (-1), .int (-1), .int (-1)])), (t0, .inr (8, [.int 0, .ref t1, .ref t2, .ref t8, .ref t11, .int 1, .int 0, .int 0, .int 0])), (t2, .inr (1, [.int 0, .ref t3, .ref t4, .ref t5, .ref t6, .ref t7]))] s.heap := hP
  have hl := lv_entry ([.ref rm0, .int p0]) (n := 2) (Nat.le_of_ble_eq_true rfl)
  rw [lg_entry_eq]
  generalize (lg_sl ([.ref rm0, .int p0]) ++ List.replicate (2 - (lg_sl ([.ref rm0, .int p0])).length) Slot.unset).toArray = ls at hl ⊢
  have hl : lv_has ls 2 [(0, .ref rm0), (1, .int p0)] := hl
  refine lv_iload_n hx hb dX12_cheapest_0 rfl (lv_at hl 1 rfl) ?_
  refine lv_iconst (v := 1) hx hb dX12_cheapest_1 (by decide) ?_
  refine lv_icmp_lt (tgt := 11) hx hb dX12_cheapest_2 (by decide) (fun c1 => ?_) (fun c1 => ?_)
  · refine lv_iconst (v := (-1)) hx hb dX12_cheapest_11 (by decide) ?_
    refine lv_goto (tgt := 26) hx hb dX12_cheapest_12 (by decide) ?_
    have hP := hP.sub (ws' := [(rm0, .inr (10, [.ref e0, .ref d0, .ref v0, .ref t0, .ref n0, .ref s0, .ref z0, .ref g0, .ref h0, .ref o0, .ref j0, .ref j1, .ref j2, .ref j3, .int 0, .int (-1), .int (-1), .int (-1)])), (t0, .inr (8, [.int 0, .ref t1, .ref t2, .ref t8, .ref t11, .int 1, .int 0, .int 0, .int 0])), (t2, .inr (1, [.int 0, .ref t3, .ref t4, .ref t5, .ref t6, .ref t7]))]) [0, 1, 2] rfl
    have hD := hD.sub (ws' := [(rm0, .inr (10, [.ref e0, .ref d0, .ref v0, .ref t0, .ref n0, .ref s0, .ref z0, .ref g0, .ref h0, .ref o0, .ref j0, .ref j1, .ref j2, .ref j3, .int 0, .int (-1), .int (-1), .int (-1)])), (t0, .inr (8, [.int 0, .ref t1, .ref t2, .ref t8, .ref t11, .int 1, .int 0, .int 0, .int 0])), (t2, .inr (1, [.int 0, .ref t3, .ref t4, .ref t5, .ref t6, .ref t7]))]) [0, 1, 2] (by decide) rfl
    exact g_iret hx hb hr rfl hlocks hK (fun _ => 0) hP hD hS rfl dX12_cheapest_26 ⟨Nat.le_of_ble_eq_true rfl, Nat.le_of_ble_eq_true rfl⟩
  · refine lv_iload_n hx hb dX12_cheapest_5 rfl (lv_at hl 1 rfl) ?_
    refine lv_bipush (v := 32) hx hb dX12_cheapest_6 (by decide) ?_
    refine lv_icmp_le (tgt := 15) hx hb dX12_cheapest_8 (by decide) (fun c2 => ?_) (fun c2 => ?_)
    · refine lv_aload_n hx hb dX12_cheapest_15 rfl (lv_at hl 0 rfl) ?_
      refine va_get (D := D) (ci := 10) (v := .ref t0) (C := RX12) (T := TX12) (N := 18) hx hb hts inX12_cheapest_X12 hown hK hP 0 rfl rfl 3 (by decide) (hts (.fieldLink RX12 37 "RungMoney" "town" "LRungMoney$Town;") (by decide +kernel)) (fun _ h9 => h9) rfl dX12_cheapest_16 ?_
      refine va_get (D := D) (ci := 8) (v := .ref t2) (C := RX10) (T := TX10) (N := 9) hx hb hts inX12_cheapest_X10 hown hK hP 1 rfl rfl 2 (by decide) (hts (.fieldLink RX12 142 "RungMoney$Town" "ladders" "LRungMoney$Ladders;") (by decide +kernel)) (fun _ h9 => h9) rfl dX12_cheapest_19 ?_
      refine lv_iload_n hx hb dX12_cheapest_22 rfl (lv_at hl 1 rfl) ?_
      refine g_iV (As := [.int p0]) (rest := []) (wr := [(rm0, .inr (10, [.ref e0, .ref d0, .ref v0, .ref t0, .ref n0, .ref s0, .ref z0, .ref g0, .ref h0, .ref o0, .ref j0, .ref j1, .ref j2, .ref j3, .int 0, .int (-1), .int (-1), .int (-1)])), (t0, .inr (8, [.int 0, .ref t1, .ref t2, .ref t8, .ref t11, .int 1, .int 0, .int 0, .int 0]))]) ⟨hx, hb, hml, hown, hts⟩ (cL_leastLook l D k t2 t3 t4 t5 t6 t7 p0) (cwV 1 hts gX12_cheapest_X3_leastLook rfl rfl rfl (by decide +kernel) ⟨Nat.le_of_ble_eq_true rfl, Nat.le_of_ble_eq_true rfl⟩) g_E0_ok (fun _ _ _ => trivial) hK hP hD hS hA 2 1 rfl rfl rfl [2] [0, 1] rfl rfl (by decide) rfl hl.1 rfl (Nat.le_of_ble_eq_true rfl) dX12_cheapest_23 ⟨Nat.le_of_ble_eq_true rfl, Nat.le_of_ble_eq_true rfl⟩ (fun u3 H locs hP hD hS => ?_)
      have hP : va_P D vwCl [(rm0, .inr (10, [.ref e0, .ref d0, .ref v0, .ref t0, .ref n0, .ref s0, .ref z0, .ref g0, .ref h0, .ref o0, .ref j0, .ref j1, .ref j2, .ref j3, .int 0, .int (-1), .int (-1), .int (-1)])), (t0, .inr (8, [.int 0, .ref t1, .ref t2, .ref t8, .ref t11, .int 1, .int 0, .int 0, .int 0])), (t2, .inr (1, [.int 0, .ref t3, .ref t4, .ref t5, .ref t6, .ref t7]))] H := hP
      have hD : va_D A [(rm0, .inr (10, [.ref e0, .ref d0, .ref v0, .ref t0, .ref n0, .ref s0, .ref z0, .ref g0, .ref h0, .ref o0, .ref j0, .ref j1, .ref j2, .ref j3, .int 0, .int (-1), .int (-1), .int (-1)])), (t0, .inr (8, [.int 0, .ref t1, .ref t2, .ref t8, .ref t11, .int 1, .int 0, .int 0, .int 0])), (t2, .inr (1, [.int 0, .ref t3, .ref t4, .ref t5, .ref t6, .ref t7]))] := hD
      have hP := hP.sub (ws' := [(rm0, .inr (10, [.ref e0, .ref d0, .ref v0, .ref t0, .ref n0, .ref s0, .ref z0, .ref g0, .ref h0, .ref o0, .ref j0, .ref j1, .ref j2, .ref j3, .int 0, .int (-1), .int (-1), .int (-1)])), (t0, .inr (8, [.int 0, .ref t1, .ref t2, .ref t8, .ref t11, .int 1, .int 0, .int 0, .int 0])), (t2, .inr (1, [.int 0, .ref t3, .ref t4, .ref t5, .ref t6, .ref t7]))]) [0, 1, 2] rfl
      have hD := hD.sub (ws' := [(rm0, .inr (10, [.ref e0, .ref d0, .ref v0, .ref t0, .ref n0, .ref s0, .ref z0, .ref g0, .ref h0, .ref o0, .ref j0, .ref j1, .ref j2, .ref j3, .int 0, .int (-1), .int (-1), .int (-1)])), (t0, .inr (8, [.int 0, .ref t1, .ref t2, .ref t8, .ref t11, .int 1, .int 0, .int 0, .int 0])), (t2, .inr (1, [.int 0, .ref t3, .ref t4, .ref t5, .ref t6, .ref t7]))]) [0, 1, 2] (by decide) rfl
      exact g_iret hx hb hr rfl hlocks hK (fun _ => 0) hP hD hS rfl dX12_cheapest_26 ⟨Nat.le_of_ble_eq_true rfl, Nat.le_of_ble_eq_true rfl⟩
    · refine lv_iconst (v := (-1)) hx hb dX12_cheapest_11 (by decide) ?_
      refine lv_goto (tgt := 26) hx hb dX12_cheapest_12 (by decide) ?_
      have hP := hP.sub (ws' := [(rm0, .inr (10, [.ref e0, .ref d0, .ref v0, .ref t0, .ref n0, .ref s0, .ref z0, .ref g0, .ref h0, .ref o0, .ref j0, .ref j1, .ref j2, .ref j3, .int 0, .int (-1), .int (-1), .int (-1)])), (t0, .inr (8, [.int 0, .ref t1, .ref t2, .ref t8, .ref t11, .int 1, .int 0, .int 0, .int 0])), (t2, .inr (1, [.int 0, .ref t3, .ref t4, .ref t5, .ref t6, .ref t7]))]) [0, 1, 2] rfl
      have hD := hD.sub (ws' := [(rm0, .inr (10, [.ref e0, .ref d0, .ref v0, .ref t0, .ref n0, .ref s0, .ref z0, .ref g0, .ref h0, .ref o0, .ref j0, .ref j1, .ref j2, .ref j3, .int 0, .int (-1), .int (-1), .int (-1)])), (t0, .inr (8, [.int 0, .ref t1, .ref t2, .ref t8, .ref t11, .int 1, .int 0, .int 0, .int 0])), (t2, .inr (1, [.int 0, .ref t3, .ref t4, .ref t5, .ref t6, .ref t7]))]) [0, 1, 2] (by decide) rfl
      exact g_iret hx hb hr rfl hlocks hK (fun _ => 0) hP hD hS rfl dX12_cheapest_26 ⟨Nat.le_of_ble_eq_true rfl, Nat.le_of_ble_eq_true rfl⟩
set_option maxHeartbeats 4000000 in
set_option maxRecDepth 100000 in
theorem cM_bear (l : Launch) (D : va_G) (k : Nat → ClassId) (rm0 : Nat) (e0 : Nat) (d0 : Nat) (v0 : Nat) (t0 : Nat) (n0 : Nat) (s0 : Nat) (z0 : Nat) (g0 : Nat) (h0 : Nat) (o0 : Nat) (j0 : Nat) (j1 : Nat) (j2 : Nat) (j3 : Nat) (t1 : Nat) (t2 : Nat) (t3 : Nat) (t4 : Nat) (t5 : Nat) (t6 : Nat) (t7 : Nat) (t8 : Nat) (t11 : Nat) : g_Ci l yX12_bear wsX12_bear ({ frames := 1, cells := 0, slots := 0, locals := 22 }) D k g_E0 [.ref rm0] [(rm0, .inr (10, [.ref e0, .ref d0, .ref v0, .ref t0, .ref n0, .ref s0, .ref z0, .ref g0, .ref h0, .ref o0, .ref j0, .ref j1, .ref j2, .ref j3, .int 0, .int (-1), .int (-1), .int (-1)])), (t0, .inr (8, [.int 0, .ref t1, .ref t2, .ref t8, .ref t11, .int 1, .int 0, .int 0, .int 0])), (t2, .inr (1, [.int 0, .ref t3, .ref t4, .ref t5, .ref t6, .ref t7]))] 0 (fun u => [(rm0, .inr (10, [.ref e0, .ref d0, .ref v0, .ref t0, .ref n0, .ref s0, .ref z0, .ref g0, .ref h0, .ref o0, .ref j0, .ref j1, .ref j2, .ref j3, .int 0, .int (-1), .int (-1), .int (-1)])), (t0, .inr (8, [.int 0, .ref t1, .ref t2, .ref t8, .ref t11, .int 1, .int 0, .int 0, .int 0])), (t2, .inr (1, [.int 0, .ref t3, .ref t4, .ref t5, .ref t6, .ref t7]))]) 0 0 := by
  intro sz
  refine Met.ofW (cc := cX12_bear) (maxL := 1) (ret := (some .int)) (by decide) rfl ?_
  intro p e s m args below meth c s₁ B hml hv
  obtain ⟨rfl, hsz, hP, hK, hD0, hE⟩ := hv
  have hx := B.exec
  have hb := B.bytes
  have hr := B.returns
  have hts := atoms_spec (ws := wsX12_bear) B.pre
  have hown : s.vm.findClass RX12 = some m.cls := findClass_of_methodNamed B.named
  have hlocks := B.notSynchronized
  subst hsz
  have hD := hD0.self (sz := s.heap.size)
  generalize hAe : va_A [(rm0, .inr (10, [.ref e0, .ref d0, .ref v0, .ref t0, .ref n0, .ref s0, .ref z0, .ref g0, .ref h0, .ref o0, .ref j0, .ref j1, .ref j2, .ref j3, .int 0, .int (-1), .int (-1), .int (-1)])), (t0, .inr (8, [.int 0, .ref t1, .ref t2, .ref t8, .ref t11, .int 1, .int 0, .int 0, .int 0])), (t2, .inr (1, [.int 0, .ref t3, .ref t4, .ref t5, .ref t6, .ref t7]))] s.heap.size = A at hD ⊢
  have hA : ∀ q : Nat, s.heap.size ≤ q → A q := fun q h => by rw [← hAe]; exact Or.inr h
  have hS : va_S A s.heap s.heap [] := va_S.rf
  have hP : va_P D vwCl [(rm0, .inr (10, [.ref e0, .ref d0, .ref v0, .ref t0, .ref n0, .ref s0, .ref z0, .ref g0, .ref h0, .ref o0, .ref j0, .ref j1, .ref j2, .ref j3, .int 0, .int (-1), .int (-1), .int (-1)])), (t0, .inr (8, [.int 0, .ref t1, .ref t2, .ref t8, .ref t11, .int 1, .int 0, .int 0, .int 0])), (t2, .inr (1, [.int 0, .ref t3, .ref t4, .ref t5, .ref t6, .ref t7]))] s.heap := hP
  have hl := lv_entry ([.ref rm0]) (n := 1) (Nat.le_of_ble_eq_true rfl)
  rw [lg_entry_eq]
  generalize (lg_sl ([.ref rm0]) ++ List.replicate (1 - (lg_sl ([.ref rm0])).length) Slot.unset).toArray = ls at hl ⊢
  have hl : lv_has ls 1 [(0, .ref rm0)] := hl
  refine lv_aload_n hx hb dX12_bear_0 rfl (lv_at hl 0 rfl) ?_
  refine va_get (D := D) (ci := 10) (v := .ref t0) (C := RX12) (T := TX12) (N := 18) hx hb hts inX12_bear_X12 hown hK hP 0 rfl rfl 3 (by decide) (hts (.fieldLink RX12 37 "RungMoney" "town" "LRungMoney$Town;") (by decide +kernel)) (fun _ h9 => h9) rfl dX12_bear_1 ?_
  refine va_get (D := D) (ci := 8) (v := .ref t2) (C := RX10) (T := TX10) (N := 9) hx hb hts inX12_bear_X10 hown hK hP 1 rfl rfl 2 (by decide) (hts (.fieldLink RX12 142 "RungMoney$Town" "ladders" "LRungMoney$Ladders;") (by decide +kernel)) (fun _ h9 => h9) rfl dX12_bear_4 ?_
  refine g_iV (As := []) (rest := []) (wr := [(rm0, .inr (10, [.ref e0, .ref d0, .ref v0, .ref t0, .ref n0, .ref s0, .ref z0, .ref g0, .ref h0, .ref o0, .ref j0, .ref j1, .ref j2, .ref j3, .int 0, .int (-1), .int (-1), .int (-1)])), (t0, .inr (8, [.int 0, .ref t1, .ref t2, .ref t8, .ref t11, .int 1, .int 0, .int 0, .int 0]))]) ⟨hx, hb, hml, hown, hts⟩ (cL_bitsBearing l D k t2 t3 t4 t5 t6 t7) (cwV 0 hts gX12_bear_X3_bitsBearing rfl rfl rfl (by decide +kernel) ⟨Nat.le_of_ble_eq_true rfl, Nat.le_of_ble_eq_true rfl⟩) g_E0_ok (fun _ _ _ => trivial) hK hP hD hS hA 2 1 rfl rfl rfl [2] [0, 1] rfl rfl (by decide) rfl hl.1 rfl (Nat.le_of_ble_eq_true rfl) dX12_bear_7 ⟨Nat.le_of_ble_eq_true rfl, Nat.le_of_ble_eq_true rfl⟩ (fun u1 H locs hP hD hS => ?_)
  have hP : va_P D vwCl [(rm0, .inr (10, [.ref e0, .ref d0, .ref v0, .ref t0, .ref n0, .ref s0, .ref z0, .ref g0, .ref h0, .ref o0, .ref j0, .ref j1, .ref j2, .ref j3, .int 0, .int (-1), .int (-1), .int (-1)])), (t0, .inr (8, [.int 0, .ref t1, .ref t2, .ref t8, .ref t11, .int 1, .int 0, .int 0, .int 0])), (t2, .inr (1, [.int 0, .ref t3, .ref t4, .ref t5, .ref t6, .ref t7]))] H := hP
  have hD : va_D A [(rm0, .inr (10, [.ref e0, .ref d0, .ref v0, .ref t0, .ref n0, .ref s0, .ref z0, .ref g0, .ref h0, .ref o0, .ref j0, .ref j1, .ref j2, .ref j3, .int 0, .int (-1), .int (-1), .int (-1)])), (t0, .inr (8, [.int 0, .ref t1, .ref t2, .ref t8, .ref t11, .int 1, .int 0, .int 0, .int 0])), (t2, .inr (1, [.int 0, .ref t3, .ref t4, .ref t5, .ref t6, .ref t7]))] := hD
  have hP := hP.sub (ws' := [(rm0, .inr (10, [.ref e0, .ref d0, .ref v0, .ref t0, .ref n0, .ref s0, .ref z0, .ref g0, .ref h0, .ref o0, .ref j0, .ref j1, .ref j2, .ref j3, .int 0, .int (-1), .int (-1), .int (-1)])), (t0, .inr (8, [.int 0, .ref t1, .ref t2, .ref t8, .ref t11, .int 1, .int 0, .int 0, .int 0])), (t2, .inr (1, [.int 0, .ref t3, .ref t4, .ref t5, .ref t6, .ref t7]))]) [0, 1, 2] rfl
  have hD := hD.sub (ws' := [(rm0, .inr (10, [.ref e0, .ref d0, .ref v0, .ref t0, .ref n0, .ref s0, .ref z0, .ref g0, .ref h0, .ref o0, .ref j0, .ref j1, .ref j2, .ref j3, .int 0, .int (-1), .int (-1), .int (-1)])), (t0, .inr (8, [.int 0, .ref t1, .ref t2, .ref t8, .ref t11, .int 1, .int 0, .int 0, .int 0])), (t2, .inr (1, [.int 0, .ref t3, .ref t4, .ref t5, .ref t6, .ref t7]))]) [0, 1, 2] (by decide) rfl
  exact g_iret hx hb hr rfl hlocks hK (fun _ => 0) hP hD hS rfl dX12_bear_10 ⟨Nat.le_of_ble_eq_true rfl, Nat.le_of_ble_eq_true rfl⟩
set_option maxHeartbeats 4000000 in
set_option maxRecDepth 100000 in
theorem cM_suspect (l : Launch) (D : va_G) (k : Nat → ClassId) (rm0 : Nat) (e0 : Nat) (d0 : Nat) (v0 : Nat) (t0 : Nat) (n0 : Nat) (s0 : Nat) (z0 : Nat) (g0 : Nat) (h0 : Nat) (o0 : Nat) (j0 : Nat) (j1 : Nat) (j2 : Nat) (j3 : Nat) (t1 : Nat) (t2 : Nat) (t3 : Nat) (t4 : Nat) (t5 : Nat) (t6 : Nat) (t7 : Nat) (t8 : Nat) (t11 : Nat) : g_Ci l yX12_suspect wsX12_suspect ({ frames := 1, cells := 0, slots := 0, locals := 26 }) D k g_E0 [.ref rm0] [(rm0, .inr (10, [.ref e0, .ref d0, .ref v0, .ref t0, .ref n0, .ref s0, .ref z0, .ref g0, .ref h0, .ref o0, .ref j0, .ref j1, .ref j2, .ref j3, .int 0, .int (-1), .int (-1), .int (-1)])), (t0, .inr (8, [.int 0, .ref t1, .ref t2, .ref t8, .ref t11, .int 1, .int 0, .int 0, .int 0])), (t2, .inr (1, [.int 0, .ref t3, .ref t4, .ref t5, .ref t6, .ref t7]))] (-1) (fun u => [(rm0, .inr (10, [.ref e0, .ref d0, .ref v0, .ref t0, .ref n0, .ref s0, .ref z0, .ref g0, .ref h0, .ref o0, .ref j0, .ref j1, .ref j2, .ref j3, .int 0, .int (-1), .int (-1), .int (-1)])), (t0, .inr (8, [.int 0, .ref t1, .ref t2, .ref t8, .ref t11, .int 1, .int 0, .int 0, .int 0])), (t2, .inr (1, [.int 0, .ref t3, .ref t4, .ref t5, .ref t6, .ref t7]))]) 0 0 := by
  intro sz
  refine Met.ofW (cc := cX12_suspect) (maxL := 1) (ret := (some .int)) (by decide) rfl ?_
  intro p e s m args below meth c s₁ B hml hv
  obtain ⟨rfl, hsz, hP, hK, hD0, hE⟩ := hv
  have hx := B.exec
  have hb := B.bytes
  have hr := B.returns
  have hts := atoms_spec (ws := wsX12_suspect) B.pre
  have hown : s.vm.findClass RX12 = some m.cls := findClass_of_methodNamed B.named
  have hlocks := B.notSynchronized
  subst hsz
  have hD := hD0.self (sz := s.heap.size)
  generalize hAe : va_A [(rm0, .inr (10, [.ref e0, .ref d0, .ref v0, .ref t0, .ref n0, .ref s0, .ref z0, .ref g0, .ref h0, .ref o0, .ref j0, .ref j1, .ref j2, .ref j3, .int 0, .int (-1), .int (-1), .int (-1)])), (t0, .inr (8, [.int 0, .ref t1, .ref t2, .ref t8, .ref t11, .int 1, .int 0, .int 0, .int 0])), (t2, .inr (1, [.int 0, .ref t3, .ref t4, .ref t5, .ref t6, .ref t7]))] s.heap.size = A at hD ⊢
  have hA : ∀ q : Nat, s.heap.size ≤ q → A q := fun q h => by rw [← hAe]; exact Or.inr h
  have hS : va_S A s.heap s.heap [] := va_S.rf
  have hP : va_P D vwCl [(rm0, .inr (10, [.ref e0, .ref d0, .ref v0, .ref t0, .ref n0, .ref s0, .ref z0, .ref g0, .ref h0, .ref o0, .ref j0, .ref j1, .ref j2, .ref j3, .int 0, .int (-1), .int (-1), .int (-1)])), (t0, .inr (8, [.int 0, .ref t1, .ref t2, .ref t8, .ref t11, .int 1, .int 0, .int 0, .int 0])), (t2, .inr (1, [.int 0, .ref t3, .ref t4, .ref t5, .ref t6, .ref t7]))] s.heap := hP
  have hl := lv_entry ([.ref rm0]) (n := 1) (Nat.le_of_ble_eq_true rfl)
  rw [lg_entry_eq]
  generalize (lg_sl ([.ref rm0]) ++ List.replicate (1 - (lg_sl ([.ref rm0])).length) Slot.unset).toArray = ls at hl ⊢
  have hl : lv_has ls 1 [(0, .ref rm0)] := hl
  refine lv_aload_n hx hb dX12_suspect_0 rfl (lv_at hl 0 rfl) ?_
  refine va_get (D := D) (ci := 10) (v := .ref t0) (C := RX12) (T := TX12) (N := 18) hx hb hts inX12_suspect_X12 hown hK hP 0 rfl rfl 3 (by decide) (hts (.fieldLink RX12 37 "RungMoney" "town" "LRungMoney$Town;") (by decide +kernel)) (fun _ h9 => h9) rfl dX12_suspect_1 ?_
  refine va_get (D := D) (ci := 8) (v := .ref t2) (C := RX10) (T := TX10) (N := 9) hx hb hts inX12_suspect_X10 hown hK hP 1 rfl rfl 2 (by decide) (hts (.fieldLink RX12 142 "RungMoney$Town" "ladders" "LRungMoney$Ladders;") (by decide +kernel)) (fun _ h9 => h9) rfl dX12_suspect_4 ?_
  refine g_iV (As := []) (rest := []) (wr := [(rm0, .inr (10, [.ref e0, .ref d0, .ref v0, .ref t0, .ref n0, .ref s0, .ref z0, .ref g0, .ref h0, .ref o0, .ref j0, .ref j1, .ref j2, .ref j3, .int 0, .int (-1), .int (-1), .int (-1)])), (t0, .inr (8, [.int 0, .ref t1, .ref t2, .ref t8, .ref t11, .int 1, .int 0, .int 0, .int 0]))]) ⟨hx, hb, hml, hown, hts⟩ (cL_mostPainted l D k t2 t3 t4 t5 t6 t7) (cwV 0 hts gX12_suspect_X3_mostPainted rfl rfl rfl (by decide +kernel) ⟨Nat.le_of_ble_eq_true rfl, Nat.le_of_ble_eq_true rfl⟩) g_E0_ok (fun _ _ _ => trivial) hK hP hD hS hA 2 1 rfl rfl rfl [2] [0, 1] rfl rfl (by decide) rfl hl.1 rfl (Nat.le_of_ble_eq_true rfl) dX12_suspect_7 ⟨Nat.le_of_ble_eq_true rfl, Nat.le_of_ble_eq_true rfl⟩ (fun u1 H locs hP hD hS => ?_)
  have hP : va_P D vwCl [(rm0, .inr (10, [.ref e0, .ref d0, .ref v0, .ref t0, .ref n0, .ref s0, .ref z0, .ref g0, .ref h0, .ref o0, .ref j0, .ref j1, .ref j2, .ref j3, .int 0, .int (-1), .int (-1), .int (-1)])), (t0, .inr (8, [.int 0, .ref t1, .ref t2, .ref t8, .ref t11, .int 1, .int 0, .int 0, .int 0])), (t2, .inr (1, [.int 0, .ref t3, .ref t4, .ref t5, .ref t6, .ref t7]))] H := hP
  have hD : va_D A [(rm0, .inr (10, [.ref e0, .ref d0, .ref v0, .ref t0, .ref n0, .ref s0, .ref z0, .ref g0, .ref h0, .ref o0, .ref j0, .ref j1, .ref j2, .ref j3, .int 0, .int (-1), .int (-1), .int (-1)])), (t0, .inr (8, [.int 0, .ref t1, .ref t2, .ref t8, .ref t11, .int 1, .int 0, .int 0, .int 0])), (t2, .inr (1, [.int 0, .ref t3, .ref t4, .ref t5, .ref t6, .ref t7]))] := hD
  have hP := hP.sub (ws' := [(rm0, .inr (10, [.ref e0, .ref d0, .ref v0, .ref t0, .ref n0, .ref s0, .ref z0, .ref g0, .ref h0, .ref o0, .ref j0, .ref j1, .ref j2, .ref j3, .int 0, .int (-1), .int (-1), .int (-1)])), (t0, .inr (8, [.int 0, .ref t1, .ref t2, .ref t8, .ref t11, .int 1, .int 0, .int 0, .int 0])), (t2, .inr (1, [.int 0, .ref t3, .ref t4, .ref t5, .ref t6, .ref t7]))]) [0, 1, 2] rfl
  have hD := hD.sub (ws' := [(rm0, .inr (10, [.ref e0, .ref d0, .ref v0, .ref t0, .ref n0, .ref s0, .ref z0, .ref g0, .ref h0, .ref o0, .ref j0, .ref j1, .ref j2, .ref j3, .int 0, .int (-1), .int (-1), .int (-1)])), (t0, .inr (8, [.int 0, .ref t1, .ref t2, .ref t8, .ref t11, .int 1, .int 0, .int 0, .int 0])), (t2, .inr (1, [.int 0, .ref t3, .ref t4, .ref t5, .ref t6, .ref t7]))]) [0, 1, 2] (by decide) rfl
  exact g_iret hx hb hr rfl hlocks hK (fun _ => 0) hP hD hS rfl dX12_suspect_10 ⟨Nat.le_of_ble_eq_true rfl, Nat.le_of_ble_eq_true rfl⟩
set_option maxHeartbeats 4000000 in
set_option maxRecDepth 100000 in
theorem cM_broke (l : Launch) (D : va_G) (k : Nat → ClassId) (rm0 : Nat) (e0 : Nat) (d0 : Nat) (v0 : Nat) (t0 : Nat) (n0 : Nat) (s0 : Nat) (z0 : Nat) (g0 : Nat) (h0 : Nat) (o0 : Nat) (j0 : Nat) (j1 : Nat) (j2 : Nat) (j3 : Nat) (t1 : Nat) (t2 : Nat) (t3 : Nat) (t4 : Nat) (t5 : Nat) (t6 : Nat) (t7 : Nat) (t8 : Nat) (t11 : Nat) : g_Ci l yX12_broke wsX12_broke ({ frames := 1, cells := 0, slots := 0, locals := 25 }) D k g_E0 [.ref rm0] [(rm0, .inr (10, [.ref e0, .ref d0, .ref v0, .ref t0, .ref n0, .ref s0, .ref z0, .ref g0, .ref h0, .ref o0, .ref j0, .ref j1, .ref j2, .ref j3, .int 0, .int (-1), .int (-1), .int (-1)])), (t0, .inr (8, [.int 0, .ref t1, .ref t2, .ref t8, .ref t11, .int 1, .int 0, .int 0, .int 0])), (t2, .inr (1, [.int 0, .ref t3, .ref t4, .ref t5, .ref t6, .ref t7]))] 0 (fun u => [(rm0, .inr (10, [.ref e0, .ref d0, .ref v0, .ref t0, .ref n0, .ref s0, .ref z0, .ref g0, .ref h0, .ref o0, .ref j0, .ref j1, .ref j2, .ref j3, .int 0, .int (-1), .int (-1), .int (-1)])), (t0, .inr (8, [.int 0, .ref t1, .ref t2, .ref t8, .ref t11, .int 1, .int 0, .int 0, .int 0])), (t2, .inr (1, [.int 0, .ref t3, .ref t4, .ref t5, .ref t6, .ref t7]))]) 0 0 := by
  intro sz
  refine Met.ofW (cc := cX12_broke) (maxL := 1) (ret := (some .int)) (by decide) rfl ?_
  intro p e s m args below meth c s₁ B hml hv
  obtain ⟨rfl, hsz, hP, hK, hD0, hE⟩ := hv
  have hx := B.exec
  have hb := B.bytes
  have hr := B.returns
  have hts := atoms_spec (ws := wsX12_broke) B.pre
  have hown : s.vm.findClass RX12 = some m.cls := findClass_of_methodNamed B.named
  have hlocks := B.notSynchronized
  subst hsz
  have hD := hD0.self (sz := s.heap.size)
  generalize hAe : va_A [(rm0, .inr (10, [.ref e0, .ref d0, .ref v0, .ref t0, .ref n0, .ref s0, .ref z0, .ref g0, .ref h0, .ref o0, .ref j0, .ref j1, .ref j2, .ref j3, .int 0, .int (-1), .int (-1), .int (-1)])), (t0, .inr (8, [.int 0, .ref t1, .ref t2, .ref t8, .ref t11, .int 1, .int 0, .int 0, .int 0])), (t2, .inr (1, [.int 0, .ref t3, .ref t4, .ref t5, .ref t6, .ref t7]))] s.heap.size = A at hD ⊢
  have hA : ∀ q : Nat, s.heap.size ≤ q → A q := fun q h => by rw [← hAe]; exact Or.inr h
  have hS : va_S A s.heap s.heap [] := va_S.rf
  have hP : va_P D vwCl [(rm0, .inr (10, [.ref e0, .ref d0, .ref v0, .ref t0, .ref n0, .ref s0, .ref z0, .ref g0, .ref h0, .ref o0, .ref j0, .ref j1, .ref j2, .ref j3, .int 0, .int (-1), .int (-1), .int (-1)])), (t0, .inr (8, [.int 0, .ref t1, .ref t2, .ref t8, .ref t11, .int 1, .int 0, .int 0, .int 0])), (t2, .inr (1, [.int 0, .ref t3, .ref t4, .ref t5, .ref t6, .ref t7]))] s.heap := hP
  have hl := lv_entry ([.ref rm0]) (n := 1) (Nat.le_of_ble_eq_true rfl)
  rw [lg_entry_eq]
  generalize (lg_sl ([.ref rm0]) ++ List.replicate (1 - (lg_sl ([.ref rm0])).length) Slot.unset).toArray = ls at hl ⊢
  have hl : lv_has ls 1 [(0, .ref rm0)] := hl
  refine lv_aload_n hx hb dX12_broke_0 rfl (lv_at hl 0 rfl) ?_
  refine va_get (D := D) (ci := 10) (v := .ref t0) (C := RX12) (T := TX12) (N := 18) hx hb hts inX12_broke_X12 hown hK hP 0 rfl rfl 3 (by decide) (hts (.fieldLink RX12 37 "RungMoney" "town" "LRungMoney$Town;") (by decide +kernel)) (fun _ h9 => h9) rfl dX12_broke_1 ?_
  refine lv_iconst (v := 2) hx hb dX12_broke_4 (by decide) ?_
  refine g_iV (As := [.int 2]) (rest := []) (wr := [(rm0, .inr (10, [.ref e0, .ref d0, .ref v0, .ref t0, .ref n0, .ref s0, .ref z0, .ref g0, .ref h0, .ref o0, .ref j0, .ref j1, .ref j2, .ref j3, .int 0, .int (-1), .int (-1), .int (-1)])), (t2, .inr (1, [.int 0, .ref t3, .ref t4, .ref t5, .ref t6, .ref t7]))]) ⟨hx, hb, hml, hown, hts⟩ (cT_brokeBy l D k t0 t1 t2 t8 t11 2) (cwV 1 hts gX12_broke_X10_brokeBy rfl rfl rfl (by decide +kernel) ⟨Nat.le_of_ble_eq_true rfl, Nat.le_of_ble_eq_true rfl⟩) g_E0_ok (fun _ _ _ => trivial) hK hP hD hS hA 1 8 rfl rfl rfl [1] [0, 2] rfl rfl (by decide) rfl hl.1 rfl (Nat.le_of_ble_eq_true rfl) dX12_broke_5 ⟨Nat.le_of_ble_eq_true rfl, Nat.le_of_ble_eq_true rfl⟩ (fun u1 H locs hP hD hS => ?_)
  have hP : va_P D vwCl [(rm0, .inr (10, [.ref e0, .ref d0, .ref v0, .ref t0, .ref n0, .ref s0, .ref z0, .ref g0, .ref h0, .ref o0, .ref j0, .ref j1, .ref j2, .ref j3, .int 0, .int (-1), .int (-1), .int (-1)])), (t2, .inr (1, [.int 0, .ref t3, .ref t4, .ref t5, .ref t6, .ref t7])), (t0, .inr (8, [.int 0, .ref t1, .ref t2, .ref t8, .ref t11, .int 1, .int 0, .int 0, .int 0]))] H := hP
  have hD : va_D A [(rm0, .inr (10, [.ref e0, .ref d0, .ref v0, .ref t0, .ref n0, .ref s0, .ref z0, .ref g0, .ref h0, .ref o0, .ref j0, .ref j1, .ref j2, .ref j3, .int 0, .int (-1), .int (-1), .int (-1)])), (t2, .inr (1, [.int 0, .ref t3, .ref t4, .ref t5, .ref t6, .ref t7])), (t0, .inr (8, [.int 0, .ref t1, .ref t2, .ref t8, .ref t11, .int 1, .int 0, .int 0, .int 0]))] := hD
  have hP := hP.sub (ws' := [(rm0, .inr (10, [.ref e0, .ref d0, .ref v0, .ref t0, .ref n0, .ref s0, .ref z0, .ref g0, .ref h0, .ref o0, .ref j0, .ref j1, .ref j2, .ref j3, .int 0, .int (-1), .int (-1), .int (-1)])), (t0, .inr (8, [.int 0, .ref t1, .ref t2, .ref t8, .ref t11, .int 1, .int 0, .int 0, .int 0])), (t2, .inr (1, [.int 0, .ref t3, .ref t4, .ref t5, .ref t6, .ref t7]))]) [0, 2, 1] rfl
  have hD := hD.sub (ws' := [(rm0, .inr (10, [.ref e0, .ref d0, .ref v0, .ref t0, .ref n0, .ref s0, .ref z0, .ref g0, .ref h0, .ref o0, .ref j0, .ref j1, .ref j2, .ref j3, .int 0, .int (-1), .int (-1), .int (-1)])), (t0, .inr (8, [.int 0, .ref t1, .ref t2, .ref t8, .ref t11, .int 1, .int 0, .int 0, .int 0])), (t2, .inr (1, [.int 0, .ref t3, .ref t4, .ref t5, .ref t6, .ref t7]))]) [0, 2, 1] (by decide) rfl
  exact g_iret hx hb hr rfl hlocks hK (fun _ => 0) hP hD hS rfl dX12_broke_8 ⟨Nat.le_of_ble_eq_true rfl, Nat.le_of_ble_eq_true rfl⟩
set_option maxHeartbeats 4000000 in
set_option maxRecDepth 100000 in
theorem cM_bubbles (l : Launch) (D : va_G) (k : Nat → ClassId) (rm0 : Nat) (e0 : Nat) (d0 : Nat) (v0 : Nat) (t0 : Nat) (n0 : Nat) (s0 : Nat) (z0 : Nat) (g0 : Nat) (h0 : Nat) (o0 : Nat) (j0 : Nat) (j1 : Nat) (j2 : Nat) (j3 : Nat) (t1 : Nat) (t2 : Nat) (t3 : Nat) (t4 : Nat) (t5 : Nat) (t6 : Nat) (t7 : Nat) (t8 : Nat) (t11 : Nat) : g_Ci l yX12_bubbles wsX12_bubbles ({ frames := 1, cells := 0, slots := 0, locals := 25 }) D k g_E0 [.ref rm0] [(rm0, .inr (10, [.ref e0, .ref d0, .ref v0, .ref t0, .ref n0, .ref s0, .ref z0, .ref g0, .ref h0, .ref o0, .ref j0, .ref j1, .ref j2, .ref j3, .int 0, .int (-1), .int (-1), .int (-1)])), (t0, .inr (8, [.int 0, .ref t1, .ref t2, .ref t8, .ref t11, .int 1, .int 0, .int 0, .int 0])), (t2, .inr (1, [.int 0, .ref t3, .ref t4, .ref t5, .ref t6, .ref t7]))] 0 (fun u => [(rm0, .inr (10, [.ref e0, .ref d0, .ref v0, .ref t0, .ref n0, .ref s0, .ref z0, .ref g0, .ref h0, .ref o0, .ref j0, .ref j1, .ref j2, .ref j3, .int 0, .int (-1), .int (-1), .int (-1)])), (t0, .inr (8, [.int 0, .ref t1, .ref t2, .ref t8, .ref t11, .int 1, .int 0, .int 0, .int 0])), (t2, .inr (1, [.int 0, .ref t3, .ref t4, .ref t5, .ref t6, .ref t7]))]) 0 0 := by
  intro sz
  refine Met.ofW (cc := cX12_bubbles) (maxL := 1) (ret := (some .int)) (by decide) rfl ?_
  intro p e s m args below meth c s₁ B hml hv
  obtain ⟨rfl, hsz, hP, hK, hD0, hE⟩ := hv
  have hx := B.exec
  have hb := B.bytes
  have hr := B.returns
  have hts := atoms_spec (ws := wsX12_bubbles) B.pre
  have hown : s.vm.findClass RX12 = some m.cls := findClass_of_methodNamed B.named
  have hlocks := B.notSynchronized
  subst hsz
  have hD := hD0.self (sz := s.heap.size)
  generalize hAe : va_A [(rm0, .inr (10, [.ref e0, .ref d0, .ref v0, .ref t0, .ref n0, .ref s0, .ref z0, .ref g0, .ref h0, .ref o0, .ref j0, .ref j1, .ref j2, .ref j3, .int 0, .int (-1), .int (-1), .int (-1)])), (t0, .inr (8, [.int 0, .ref t1, .ref t2, .ref t8, .ref t11, .int 1, .int 0, .int 0, .int 0])), (t2, .inr (1, [.int 0, .ref t3, .ref t4, .ref t5, .ref t6, .ref t7]))] s.heap.size = A at hD ⊢
  have hA : ∀ q : Nat, s.heap.size ≤ q → A q := fun q h => by rw [← hAe]; exact Or.inr h
  have hS : va_S A s.heap s.heap [] := va_S.rf
  have hP : va_P D vwCl [(rm0, .inr (10, [.ref e0, .ref d0, .ref v0, .ref t0, .ref n0, .ref s0, .ref z0, .ref g0, .ref h0, .ref o0, .ref j0, .ref j1, .ref j2, .ref j3, .int 0, .int (-1), .int (-1), .int (-1)])), (t0, .inr (8, [.int 0, .ref t1, .ref t2, .ref t8, .ref t11, .int 1, .int 0, .int 0, .int 0])), (t2, .inr (1, [.int 0, .ref t3, .ref t4, .ref t5, .ref t6, .ref t7]))] s.heap := hP
  have hl := lv_entry ([.ref rm0]) (n := 1) (Nat.le_of_ble_eq_true rfl)
  rw [lg_entry_eq]
  generalize (lg_sl ([.ref rm0]) ++ List.replicate (1 - (lg_sl ([.ref rm0])).length) Slot.unset).toArray = ls at hl ⊢
  have hl : lv_has ls 1 [(0, .ref rm0)] := hl
  refine lv_aload_n hx hb dX12_bubbles_0 rfl (lv_at hl 0 rfl) ?_
  refine va_get (D := D) (ci := 10) (v := .ref t0) (C := RX12) (T := TX12) (N := 18) hx hb hts inX12_bubbles_X12 hown hK hP 0 rfl rfl 3 (by decide) (hts (.fieldLink RX12 37 "RungMoney" "town" "LRungMoney$Town;") (by decide +kernel)) (fun _ h9 => h9) rfl dX12_bubbles_1 ?_
  refine lv_iconst (v := 3) hx hb dX12_bubbles_4 (by decide) ?_
  refine g_iV (As := [.int 3]) (rest := []) (wr := [(rm0, .inr (10, [.ref e0, .ref d0, .ref v0, .ref t0, .ref n0, .ref s0, .ref z0, .ref g0, .ref h0, .ref o0, .ref j0, .ref j1, .ref j2, .ref j3, .int 0, .int (-1), .int (-1), .int (-1)])), (t2, .inr (1, [.int 0, .ref t3, .ref t4, .ref t5, .ref t6, .ref t7]))]) ⟨hx, hb, hml, hown, hts⟩ (cT_brokeBy l D k t0 t1 t2 t8 t11 3) (cwV 1 hts gX12_bubbles_X10_brokeBy rfl rfl rfl (by decide +kernel) ⟨Nat.le_of_ble_eq_true rfl, Nat.le_of_ble_eq_true rfl⟩) g_E0_ok (fun _ _ _ => trivial) hK hP hD hS hA 1 8 rfl rfl rfl [1] [0, 2] rfl rfl (by decide) rfl hl.1 rfl (Nat.le_of_ble_eq_true rfl) dX12_bubbles_5 ⟨Nat.le_of_ble_eq_true rfl, Nat.le_of_ble_eq_true rfl⟩ (fun u1 H locs hP hD hS => ?_)
  have hP : va_P D vwCl [(rm0, .inr (10, [.ref e0, .ref d0, .ref v0, .ref t0, .ref n0, .ref s0, .ref z0, .ref g0, .ref h0, .ref o0, .ref j0, .ref j1, .ref j2, .ref j3, .int 0, .int (-1), .int (-1), .int (-1)])), (t2, .inr (1, [.int 0, .ref t3, .ref t4, .ref t5, .ref t6, .ref t7])), (t0, .inr (8, [.int 0, .ref t1, .ref t2, .ref t8, .ref t11, .int 1, .int 0, .int 0, .int 0]))] H := hP
  have hD : va_D A [(rm0, .inr (10, [.ref e0, .ref d0, .ref v0, .ref t0, .ref n0, .ref s0, .ref z0, .ref g0, .ref h0, .ref o0, .ref j0, .ref j1, .ref j2, .ref j3, .int 0, .int (-1), .int (-1), .int (-1)])), (t2, .inr (1, [.int 0, .ref t3, .ref t4, .ref t5, .ref t6, .ref t7])), (t0, .inr (8, [.int 0, .ref t1, .ref t2, .ref t8, .ref t11, .int 1, .int 0, .int 0, .int 0]))] := hD
  refine lv_aload_n hx hb dX12_bubbles_8 rfl (lv_at hl 0 rfl) ?_
  refine va_get (D := D) (ci := 10) (v := .ref t0) (C := RX12) (T := TX12) (N := 18) hx hb hts inX12_bubbles_X12 hown hK hP 0 rfl rfl 3 (by decide) (hts (.fieldLink RX12 37 "RungMoney" "town" "LRungMoney$Town;") (by decide +kernel)) (fun _ h9 => h9) rfl dX12_bubbles_9 ?_
  refine lv_iconst (v := 2) hx hb dX12_bubbles_12 (by decide) ?_
  refine g_iV (As := [.int 2]) (rest := [.int 0]) (wr := [(rm0, .inr (10, [.ref e0, .ref d0, .ref v0, .ref t0, .ref n0, .ref s0, .ref z0, .ref g0, .ref h0, .ref o0, .ref j0, .ref j1, .ref j2, .ref j3, .int 0, .int (-1), .int (-1), .int (-1)])), (t2, .inr (1, [.int 0, .ref t3, .ref t4, .ref t5, .ref t6, .ref t7]))]) ⟨hx, hb, hml, hown, hts⟩ (cT_brokeBy l D k t0 t1 t2 t8 t11 2) (cwV 1 hts gX12_bubbles_X10_brokeBy rfl rfl rfl (by decide +kernel) ⟨Nat.le_of_ble_eq_true rfl, Nat.le_of_ble_eq_true rfl⟩) g_E0_ok (fun _ _ _ => trivial) hK hP hD hS hA 2 8 rfl rfl rfl [2] [0, 1] rfl rfl (by decide) rfl hl.1 rfl (Nat.le_of_ble_eq_true rfl) dX12_bubbles_13 ⟨Nat.le_of_ble_eq_true rfl, Nat.le_of_ble_eq_true rfl⟩ (fun u2 H locs hP hD hS => ?_)
  have hP : va_P D vwCl [(rm0, .inr (10, [.ref e0, .ref d0, .ref v0, .ref t0, .ref n0, .ref s0, .ref z0, .ref g0, .ref h0, .ref o0, .ref j0, .ref j1, .ref j2, .ref j3, .int 0, .int (-1), .int (-1), .int (-1)])), (t2, .inr (1, [.int 0, .ref t3, .ref t4, .ref t5, .ref t6, .ref t7])), (t0, .inr (8, [.int 0, .ref t1, .ref t2, .ref t8, .ref t11, .int 1, .int 0, .int 0, .int 0]))] H := hP
  have hD : va_D A [(rm0, .inr (10, [.ref e0, .ref d0, .ref v0, .ref t0, .ref n0, .ref s0, .ref z0, .ref g0, .ref h0, .ref o0, .ref j0, .ref j1, .ref j2, .ref j3, .int 0, .int (-1), .int (-1), .int (-1)])), (t2, .inr (1, [.int 0, .ref t3, .ref t4, .ref t5, .ref t6, .ref t7])), (t0, .inr (8, [.int 0, .ref t1, .ref t2, .ref t8, .ref t11, .int 1, .int 0, .int 0, .int 0]))] := hD
  refine lv_iconst (v := (-1)) hx hb dX12_bubbles_16 (by decide) ?_
  refine lv_ixor hx hb dX12_bubbles_17 ?_
  refine lv_topi (fun x3 ex3 => ?_)
  obtain rfl : x3 = (-1) := ex3.trans (by decide)
  refine lv_iand hx hb dX12_bubbles_18 ?_
  refine lv_topi (fun x4 ex4 => ?_)
  obtain rfl : x4 = 0 := ex4.trans (by decide)
  have hP := hP.sub (ws' := [(rm0, .inr (10, [.ref e0, .ref d0, .ref v0, .ref t0, .ref n0, .ref s0, .ref z0, .ref g0, .ref h0, .ref o0, .ref j0, .ref j1, .ref j2, .ref j3, .int 0, .int (-1), .int (-1), .int (-1)])), (t0, .inr (8, [.int 0, .ref t1, .ref t2, .ref t8, .ref t11, .int 1, .int 0, .int 0, .int 0])), (t2, .inr (1, [.int 0, .ref t3, .ref t4, .ref t5, .ref t6, .ref t7]))]) [0, 2, 1] rfl
  have hD := hD.sub (ws' := [(rm0, .inr (10, [.ref e0, .ref d0, .ref v0, .ref t0, .ref n0, .ref s0, .ref z0, .ref g0, .ref h0, .ref o0, .ref j0, .ref j1, .ref j2, .ref j3, .int 0, .int (-1), .int (-1), .int (-1)])), (t0, .inr (8, [.int 0, .ref t1, .ref t2, .ref t8, .ref t11, .int 1, .int 0, .int 0, .int 0])), (t2, .inr (1, [.int 0, .ref t3, .ref t4, .ref t5, .ref t6, .ref t7]))]) [0, 2, 1] (by decide) rfl
  exact g_iret hx hb hr rfl hlocks hK (fun _ => 0) hP hD hS rfl dX12_bubbles_19 ⟨Nat.le_of_ble_eq_true rfl, Nat.le_of_ble_eq_true rfl⟩
set_option maxHeartbeats 4000000 in
set_option maxRecDepth 100000 in
theorem cM_forgers (l : Launch) (D : va_G) (k : Nat → ClassId) (rm0 : Nat) (e0 : Nat) (d0 : Nat) (v0 : Nat) (t0 : Nat) (n0 : Nat) (s0 : Nat) (z0 : Nat) (g0 : Nat) (h0 : Nat) (o0 : Nat) (j0 : Nat) (j1 : Nat) (j2 : Nat) (j3 : Nat) (e1 : Nat) : g_Ci l yX12_forgers wsX12_forgers ({ frames := 0, cells := 0, slots := 0, locals := 0 }) D k g_E0 [.ref rm0] [(rm0, .inr (10, [.ref e0, .ref d0, .ref v0, .ref t0, .ref n0, .ref s0, .ref z0, .ref g0, .ref h0, .ref o0, .ref j0, .ref j1, .ref j2, .ref j3, .int 0, .int (-1), .int (-1), .int (-1)])), (e0, .inr (7, [.ref e1, .int 0]))] (-1) (fun u => [(rm0, .inr (10, [.ref e0, .ref d0, .ref v0, .ref t0, .ref n0, .ref s0, .ref z0, .ref g0, .ref h0, .ref o0, .ref j0, .ref j1, .ref j2, .ref j3, .int 0, .int (-1), .int (-1), .int (-1)])), (e0, .inr (7, [.ref e1, .int 0]))]) 0 0 := by
  intro sz
  refine Met.ofW (cc := cX12_forgers) (maxL := 5) (ret := (some .int)) (by decide) rfl ?_
  intro p e s m args below meth c s₁ B hml hv
  obtain ⟨rfl, hsz, hP, hK, hD0, hE⟩ := hv
  have hx := B.exec
  have hb := B.bytes
  have hr := B.returns
  have hts := atoms_spec (ws := wsX12_forgers) B.pre
  have hown : s.vm.findClass RX12 = some m.cls := findClass_of_methodNamed B.named
  have hlocks := B.notSynchronized
  subst hsz
  have hD := hD0.self (sz := s.heap.size)
  generalize hAe : va_A [(rm0, .inr (10, [.ref e0, .ref d0, .ref v0, .ref t0, .ref n0, .ref s0, .ref z0, .ref g0, .ref h0, .ref o0, .ref j0, .ref j1, .ref j2, .ref j3, .int 0, .int (-1), .int (-1), .int (-1)])), (e0, .inr (7, [.ref e1, .int 0]))] s.heap.size = A at hD ⊢
  have hA : ∀ q : Nat, s.heap.size ≤ q → A q := fun q h => by rw [← hAe]; exact Or.inr h
  have hS : va_S A s.heap s.heap [] := va_S.rf
  have hP : va_P D vwCl [(rm0, .inr (10, [.ref e0, .ref d0, .ref v0, .ref t0, .ref n0, .ref s0, .ref z0, .ref g0, .ref h0, .ref o0, .ref j0, .ref j1, .ref j2, .ref j3, .int 0, .int (-1), .int (-1), .int (-1)])), (e0, .inr (7, [.ref e1, .int 0]))] s.heap := hP
  have hl := lv_entry ([.ref rm0]) (n := 5) (Nat.le_of_ble_eq_true rfl)
  rw [lg_entry_eq]
  generalize (lg_sl ([.ref rm0]) ++ List.replicate (5 - (lg_sl ([.ref rm0])).length) Slot.unset).toArray = ls at hl ⊢
  have hl : lv_has ls 5 [(0, .ref rm0)] := hl
  refine lv_aload_n hx hb dX12_forgers_0 rfl (lv_at hl 0 rfl) ?_
  refine va_get (D := D) (ci := 10) (v := .ref e0) (C := RX12) (T := TX12) (N := 18) hx hb hts inX12_forgers_X12 hown hK hP 0 rfl rfl 0 (by decide) (hts (.fieldLink RX12 10 "RungMoney" "tape" "LRungMoney$Tape;") (by decide +kernel)) (fun _ h9 => h9) rfl dX12_forgers_1 ?_
  refine va_get (D := D) (ci := 7) (v := .int 0) (C := RX9) (T := TX9) (N := 2) hx hb hts inX12_forgers_X9 hown hK hP 1 rfl rfl 1 (by decide) (hts (.fieldLink RX12 115 "RungMoney$Tape" "size" "I") (by decide +kernel)) (fun _ h9 => h9) rfl dX12_forgers_4 ?_
  refine lv_istore_n (lv' := [(1, .int 0), (0, .ref rm0)]) hx hb dX12_forgers_7 rfl hl (by decide) rfl (fun ls hl => ?_)
  refine lv_aload_n hx hb dX12_forgers_8 rfl (lv_at hl 1 rfl) ?_
  refine va_get (D := D) (ci := 10) (v := .ref e0) (C := RX12) (T := TX12) (N := 18) hx hb hts inX12_forgers_X12 hown hK hP 0 rfl rfl 0 (by decide) (hts (.fieldLink RX12 10 "RungMoney" "tape" "LRungMoney$Tape;") (by decide +kernel)) (fun _ h9 => h9) rfl dX12_forgers_9 ?_
  refine lv_iconst (v := 0) hx hb dX12_forgers_12 (by decide) ?_
  refine va_put (D := D) (ci := 7) (v := .int 0) (ty := .int) (C := RX9) (T := TX9) (N := 2) hx hb hts inX12_forgers_X9 tyX9 tyX9_ok nmX9 hown hK hP hD hS 1 rfl rfl 1 (by decide) (hts (.fieldLink RX12 115 "RungMoney$Tape" "size" "I") (by decide +kernel)) (fun _ h9 => h9) rfl (by decide +kernel) rfl rfl (Nat.le_of_ble_eq_true rfl) dX12_forgers_13 (fun H locs hP hD hS => ?_)
  have hP : va_P D vwCl [(rm0, .inr (10, [.ref e0, .ref d0, .ref v0, .ref t0, .ref n0, .ref s0, .ref z0, .ref g0, .ref h0, .ref o0, .ref j0, .ref j1, .ref j2, .ref j3, .int 0, .int (-1), .int (-1), .int (-1)])), (e0, .inr (7, [.ref e1, .int 0]))] H := hP
  have hD : va_D A [(rm0, .inr (10, [.ref e0, .ref d0, .ref v0, .ref t0, .ref n0, .ref s0, .ref z0, .ref g0, .ref h0, .ref o0, .ref j0, .ref j1, .ref j2, .ref j3, .int 0, .int (-1), .int (-1), .int (-1)])), (e0, .inr (7, [.ref e1, .int 0]))] := hD
  refine lv_iload_n hx hb dX12_forgers_16 rfl (lv_at hl 0 rfl) ?_
  refine lv_iconst (v := 1) hx hb dX12_forgers_17 (by decide) ?_
  refine lv_icmp_lt (tgt := 27) hx hb dX12_forgers_18 (by decide) (fun _ => ?_) (fun h9 => absurd (by decide) h9)
  refine lv_iconst (v := (-1)) hx hb dX12_forgers_27 (by decide) ?_
  have hP := hP.sub (ws' := [(rm0, .inr (10, [.ref e0, .ref d0, .ref v0, .ref t0, .ref n0, .ref s0, .ref z0, .ref g0, .ref h0, .ref o0, .ref j0, .ref j1, .ref j2, .ref j3, .int 0, .int (-1), .int (-1), .int (-1)])), (e0, .inr (7, [.ref e1, .int 0]))]) [0, 1] rfl
  have hD := hD.sub (ws' := [(rm0, .inr (10, [.ref e0, .ref d0, .ref v0, .ref t0, .ref n0, .ref s0, .ref z0, .ref g0, .ref h0, .ref o0, .ref j0, .ref j1, .ref j2, .ref j3, .int 0, .int (-1), .int (-1), .int (-1)])), (e0, .inr (7, [.ref e1, .int 0]))]) [0, 1] (by decide) rfl
  exact g_iret hx hb hr rfl hlocks hK (fun _ => 0) hP hD hS rfl dX12_forgers_28 ⟨Nat.le_of_ble_eq_true rfl, Nat.le_of_ble_eq_true rfl⟩
set_option maxHeartbeats 4000000 in
set_option maxRecDepth 100000 in
theorem cM_struck (l : Launch) (D : va_G) (k : Nat → ClassId) (rm0 : Nat) (e0 : Nat) (d0 : Nat) (v0 : Nat) (t0 : Nat) (n0 : Nat) (s0 : Nat) (z0 : Nat) (g0 : Nat) (h0 : Nat) (o0 : Nat) (j0 : Nat) (j1 : Nat) (j2 : Nat) (j3 : Nat) (t1 : Nat) (t2 : Nat) (t3 : Nat) (t4 : Nat) (t5 : Nat) (t6 : Nat) (t7 : Nat) (t8 : Nat) (t9 : Nat) (t10 : Nat) (t11 : Nat) : g_Ci l yX12_struck wsX12_struck ({ frames := 6, cells := 0, slots := 0, locals := 131 }) D k g_E0 [.ref rm0] [(rm0, .inr (10, [.ref e0, .ref d0, .ref v0, .ref t0, .ref n0, .ref s0, .ref z0, .ref g0, .ref h0, .ref o0, .ref j0, .ref j1, .ref j2, .ref j3, .int 0, .int (-1), .int (-1), .int (-1)])), (t0, .inr (8, [.int 0, .ref t1, .ref t2, .ref t8, .ref t11, .int 1, .int 0, .int 0, .int 0])), (t2, .inr (1, [.int 0, .ref t3, .ref t4, .ref t5, .ref t6, .ref t7])), (t8, .inr (0, [.ref t9, .ref t10])), (t9, .inl (k 0, 36, .inl (fun _ => 0)))] 0 (fun u => [(rm0, .inr (10, [.ref e0, .ref d0, .ref v0, .ref t0, .ref n0, .ref s0, .ref z0, .ref g0, .ref h0, .ref o0, .ref j0, .ref j1, .ref j2, .ref j3, .int 0, .int (-1), .int (-1), .int (-1)])), (t0, .inr (8, [.int 0, .ref t1, .ref t2, .ref t8, .ref t11, .int 1, .int 0, .int 0, .int 0])), (t2, .inr (1, [.int 0, .ref t3, .ref t4, .ref t5, .ref t6, .ref t7])), (t8, .inr (0, [.ref t9, .ref t10])), (t9, .inl (k 0, 36, .inl (fun _ => 0)))]) 0 0 := by
  intro sz
  refine Met.ofW (cc := cX12_struck) (maxL := 1) (ret := (some .int)) (by decide) rfl ?_
  intro p e s m args below meth c s₁ B hml hv
  obtain ⟨rfl, hsz, hP, hK, hD0, hE⟩ := hv
  have hx := B.exec
  have hb := B.bytes
  have hr := B.returns
  have hts := atoms_spec (ws := wsX12_struck) B.pre
  have hown : s.vm.findClass RX12 = some m.cls := findClass_of_methodNamed B.named
  have hlocks := B.notSynchronized
  subst hsz
  have hD := hD0.self (sz := s.heap.size)
  generalize hAe : va_A [(rm0, .inr (10, [.ref e0, .ref d0, .ref v0, .ref t0, .ref n0, .ref s0, .ref z0, .ref g0, .ref h0, .ref o0, .ref j0, .ref j1, .ref j2, .ref j3, .int 0, .int (-1), .int (-1), .int (-1)])), (t0, .inr (8, [.int 0, .ref t1, .ref t2, .ref t8, .ref t11, .int 1, .int 0, .int 0, .int 0])), (t2, .inr (1, [.int 0, .ref t3, .ref t4, .ref t5, .ref t6, .ref t7])), (t8, .inr (0, [.ref t9, .ref t10])), (t9, .inl (k 0, 36, .inl (fun _ => 0)))] s.heap.size = A at hD ⊢
  have hA : ∀ q : Nat, s.heap.size ≤ q → A q := fun q h => by rw [← hAe]; exact Or.inr h
  have hS : va_S A s.heap s.heap [] := va_S.rf
  have hP : va_P D vwCl [(rm0, .inr (10, [.ref e0, .ref d0, .ref v0, .ref t0, .ref n0, .ref s0, .ref z0, .ref g0, .ref h0, .ref o0, .ref j0, .ref j1, .ref j2, .ref j3, .int 0, .int (-1), .int (-1), .int (-1)])), (t0, .inr (8, [.int 0, .ref t1, .ref t2, .ref t8, .ref t11, .int 1, .int 0, .int 0, .int 0])), (t2, .inr (1, [.int 0, .ref t3, .ref t4, .ref t5, .ref t6, .ref t7])), (t8, .inr (0, [.ref t9, .ref t10])), (t9, .inl (k 0, 36, .inl (fun _ => 0)))] s.heap := hP
  have hl := lv_entry ([.ref rm0]) (n := 1) (Nat.le_of_ble_eq_true rfl)
  rw [lg_entry_eq]
  generalize (lg_sl ([.ref rm0]) ++ List.replicate (1 - (lg_sl ([.ref rm0])).length) Slot.unset).toArray = ls at hl ⊢
  have hl : lv_has ls 1 [(0, .ref rm0)] := hl
  refine lv_aload_n hx hb dX12_struck_0 rfl (lv_at hl 0 rfl) ?_
  refine va_get (D := D) (ci := 10) (v := .ref t0) (C := RX12) (T := TX12) (N := 18) hx hb hts inX12_struck_X12 hown hK hP 0 rfl rfl 3 (by decide) (hts (.fieldLink RX12 37 "RungMoney" "town" "LRungMoney$Town;") (by decide +kernel)) (fun _ h9 => h9) rfl dX12_struck_1 ?_
  refine va_get (D := D) (ci := 8) (v := .ref t8) (C := RX10) (T := TX10) (N := 9) hx hb hts inX12_struck_X10 hown hK hP 1 rfl rfl 3 (by decide) (hts (.fieldLink RX12 172 "RungMoney$Town" "debts" "LRungMoney$Debts;") (by decide +kernel)) (fun _ h9 => h9) rfl dX12_struck_4 ?_
  refine g_iV (As := []) (rest := []) (wr := [(rm0, .inr (10, [.ref e0, .ref d0, .ref v0, .ref t0, .ref n0, .ref s0, .ref z0, .ref g0, .ref h0, .ref o0, .ref j0, .ref j1, .ref j2, .ref j3, .int 0, .int (-1), .int (-1), .int (-1)])), (t0, .inr (8, [.int 0, .ref t1, .ref t2, .ref t8, .ref t11, .int 1, .int 0, .int 0, .int 0])), (t2, .inr (1, [.int 0, .ref t3, .ref t4, .ref t5, .ref t6, .ref t7]))]) ⟨hx, hb, hml, hown, hts⟩ (cD_allStruck l D k t8 t9 t10) (cwV 0 hts gX12_struck_X1_allStruck rfl rfl rfl (by decide +kernel) ⟨Nat.le_of_ble_eq_true rfl, Nat.le_of_ble_eq_true rfl⟩) g_E0_ok (fun _ _ _ => trivial) hK hP hD hS hA 3 0 rfl rfl rfl [3, 4] [0, 1, 2] rfl rfl (by decide) rfl hl.1 rfl (Nat.le_of_ble_eq_true rfl) dX12_struck_7 ⟨Nat.le_of_ble_eq_true rfl, Nat.le_of_ble_eq_true rfl⟩ (fun u1 H locs hP hD hS => ?_)
  have hP : va_P D vwCl [(rm0, .inr (10, [.ref e0, .ref d0, .ref v0, .ref t0, .ref n0, .ref s0, .ref z0, .ref g0, .ref h0, .ref o0, .ref j0, .ref j1, .ref j2, .ref j3, .int 0, .int (-1), .int (-1), .int (-1)])), (t0, .inr (8, [.int 0, .ref t1, .ref t2, .ref t8, .ref t11, .int 1, .int 0, .int 0, .int 0])), (t2, .inr (1, [.int 0, .ref t3, .ref t4, .ref t5, .ref t6, .ref t7])), (t8, .inr (0, [.ref t9, .ref t10])), (t9, .inl (k 0, 36, .inl (fun _ => 0)))] H := hP
  have hD : va_D A [(rm0, .inr (10, [.ref e0, .ref d0, .ref v0, .ref t0, .ref n0, .ref s0, .ref z0, .ref g0, .ref h0, .ref o0, .ref j0, .ref j1, .ref j2, .ref j3, .int 0, .int (-1), .int (-1), .int (-1)])), (t0, .inr (8, [.int 0, .ref t1, .ref t2, .ref t8, .ref t11, .int 1, .int 0, .int 0, .int 0])), (t2, .inr (1, [.int 0, .ref t3, .ref t4, .ref t5, .ref t6, .ref t7])), (t8, .inr (0, [.ref t9, .ref t10])), (t9, .inl (k 0, 36, .inl (fun _ => 0)))] := hD
  have hP := hP.sub (ws' := [(rm0, .inr (10, [.ref e0, .ref d0, .ref v0, .ref t0, .ref n0, .ref s0, .ref z0, .ref g0, .ref h0, .ref o0, .ref j0, .ref j1, .ref j2, .ref j3, .int 0, .int (-1), .int (-1), .int (-1)])), (t0, .inr (8, [.int 0, .ref t1, .ref t2, .ref t8, .ref t11, .int 1, .int 0, .int 0, .int 0])), (t2, .inr (1, [.int 0, .ref t3, .ref t4, .ref t5, .ref t6, .ref t7])), (t8, .inr (0, [.ref t9, .ref t10])), (t9, .inl (k 0, 36, .inl (fun _ => 0)))]) [0, 1, 2, 3, 4] rfl
  have hD := hD.sub (ws' := [(rm0, .inr (10, [.ref e0, .ref d0, .ref v0, .ref t0, .ref n0, .ref s0, .ref z0, .ref g0, .ref h0, .ref o0, .ref j0, .ref j1, .ref j2, .ref j3, .int 0, .int (-1), .int (-1), .int (-1)])), (t0, .inr (8, [.int 0, .ref t1, .ref t2, .ref t8, .ref t11, .int 1, .int 0, .int 0, .int 0])), (t2, .inr (1, [.int 0, .ref t3, .ref t4, .ref t5, .ref t6, .ref t7])), (t8, .inr (0, [.ref t9, .ref t10])), (t9, .inl (k 0, 36, .inl (fun _ => 0)))]) [0, 1, 2, 3, 4] (by decide) rfl
  exact g_iret hx hb hr rfl hlocks hK (fun _ => 0) hP hD hS rfl dX12_struck_10 ⟨Nat.le_of_ble_eq_true rfl, Nat.le_of_ble_eq_true rfl⟩
set_option maxHeartbeats 4000000 in
set_option maxRecDepth 100000 in
theorem cM_now0 (l : Launch) (D : va_G) (k : Nat → ClassId) (rm0 : Nat) (e0 : Nat) (d0 : Nat) (v0 : Nat) (t0 : Nat) (n0 : Nat) (s0 : Nat) (z0 : Nat) (g0 : Nat) (h0 : Nat) (o0 : Nat) (j0 : Nat) (j1 : Nat) (j2 : Nat) (j3 : Nat) (t1 : Nat) (t2 : Nat) (t3 : Nat) (t4 : Nat) (t5 : Nat) (t6 : Nat) (t7 : Nat) (t8 : Nat) (t9 : Nat) (t10 : Nat) (t11 : Nat) : g_Ci l yX12_now wsX12_now ({ frames := 0, cells := 0, slots := 0, locals := 0 }) D k g_E0 [.ref rm0, .int 0] [(rm0, .inr (10, [.ref e0, .ref d0, .ref v0, .ref t0, .ref n0, .ref s0, .ref z0, .ref g0, .ref h0, .ref o0, .ref j0, .ref j1, .ref j2, .ref j3, .int 0, .int (-1), .int (-1), .int (-1)])), (t0, .inr (8, [.int 0, .ref t1, .ref t2, .ref t8, .ref t11, .int 1, .int 0, .int 0, .int 0])), (t2, .inr (1, [.int 0, .ref t3, .ref t4, .ref t5, .ref t6, .ref t7])), (t8, .inr (0, [.ref t9, .ref t10])), (t9, .inl (k 0, 36, .inl (fun _ => 0)))] 0 (fun u => [(rm0, .inr (10, [.ref e0, .ref d0, .ref v0, .ref t0, .ref n0, .ref s0, .ref z0, .ref g0, .ref h0, .ref o0, .ref j0, .ref j1, .ref j2, .ref j3, .int 0, .int (-1), .int (-1), .int (-1)])), (t0, .inr (8, [.int 0, .ref t1, .ref t2, .ref t8, .ref t11, .int 1, .int 0, .int 0, .int 0])), (t2, .inr (1, [.int 0, .ref t3, .ref t4, .ref t5, .ref t6, .ref t7])), (t8, .inr (0, [.ref t9, .ref t10])), (t9, .inl (k 0, 36, .inl (fun _ => 0)))]) 0 0 := by
  intro sz
  refine Met.ofW (cc := cX12_now) (maxL := 2) (ret := (some .int)) (by decide) rfl ?_
  intro p e s m args below meth c s₁ B hml hv
  obtain ⟨rfl, hsz, hP, hK, hD0, hE⟩ := hv
  have hx := B.exec
  have hb := B.bytes
  have hr := B.returns
  have hts := atoms_spec (ws := wsX12_now) B.pre
  have hown : s.vm.findClass RX12 = some m.cls := findClass_of_methodNamed B.named
  have hlocks := B.notSynchronized
  subst hsz
  have hD := hD0.self (sz := s.heap.size)
  generalize hAe : va_A [(rm0, .inr (10, [.ref e0, .ref d0, .ref v0, .ref t0, .ref n0, .ref s0, .ref z0, .ref g0, .ref h0, .ref o0, .ref j0, .ref j1, .ref j2, .ref j3, .int 0, .int (-1), .int (-1), .int (-1)])), (t0, .inr (8, [.int 0, .ref t1, .ref t2, .ref t8, .ref t11, .int 1, .int 0, .int 0, .int 0])), (t2, .inr (1, [.int 0, .ref t3, .ref t4, .ref t5, .ref t6, .ref t7])), (t8, .inr (0, [.ref t9, .ref t10])), (t9, .inl (k 0, 36, .inl (fun _ => 0)))] s.heap.size = A at hD ⊢
  have hA : ∀ q : Nat, s.heap.size ≤ q → A q := fun q h => by rw [← hAe]; exact Or.inr h
  have hS : va_S A s.heap s.heap [] := va_S.rf
  have hP : va_P D vwCl [(rm0, .inr (10, [.ref e0, .ref d0, .ref v0, .ref t0, .ref n0, .ref s0, .ref z0, .ref g0, .ref h0, .ref o0, .ref j0, .ref j1, .ref j2, .ref j3, .int 0, .int (-1), .int (-1), .int (-1)])), (t0, .inr (8, [.int 0, .ref t1, .ref t2, .ref t8, .ref t11, .int 1, .int 0, .int 0, .int 0])), (t2, .inr (1, [.int 0, .ref t3, .ref t4, .ref t5, .ref t6, .ref t7])), (t8, .inr (0, [.ref t9, .ref t10])), (t9, .inl (k 0, 36, .inl (fun _ => 0)))] s.heap := hP
  have hl := lv_entry ([.ref rm0, .int 0]) (n := 2) (Nat.le_of_ble_eq_true rfl)
  rw [lg_entry_eq]
  generalize (lg_sl ([.ref rm0, .int 0]) ++ List.replicate (2 - (lg_sl ([.ref rm0, .int 0])).length) Slot.unset).toArray = ls at hl ⊢
  have hl : lv_has ls 2 [(0, .ref rm0), (1, .int 0)] := hl
  refine lv_iload_n hx hb dX12_now_0 rfl (lv_at hl 1 rfl) ?_
  refine lv_tableIn (tgt := 48) hx hb dX12_now_1 (by decide) (by decide) rfl (by decide) ?_
  refine lv_aload_n hx hb dX12_now_48 rfl (lv_at hl 0 rfl) ?_
  refine va_get (D := D) (ci := 10) (v := .ref t0) (C := RX12) (T := TX12) (N := 18) hx hb hts inX12_now_X12 hown hK hP 0 rfl rfl 3 (by decide) (hts (.fieldLink RX12 37 "RungMoney" "town" "LRungMoney$Town;") (by decide +kernel)) (fun _ h9 => h9) rfl dX12_now_49 ?_
  refine va_get (D := D) (ci := 8) (v := .int 0) (C := RX10) (T := TX10) (N := 9) hx hb hts inX12_now_X10 hown hK hP 1 rfl rfl 6 (by decide) (hts (.fieldLink RX12 193 "RungMoney$Town" "winters" "I") (by decide +kernel)) (fun _ h9 => h9) rfl dX12_now_52 ?_
  have hP := hP.sub (ws' := [(rm0, .inr (10, [.ref e0, .ref d0, .ref v0, .ref t0, .ref n0, .ref s0, .ref z0, .ref g0, .ref h0, .ref o0, .ref j0, .ref j1, .ref j2, .ref j3, .int 0, .int (-1), .int (-1), .int (-1)])), (t0, .inr (8, [.int 0, .ref t1, .ref t2, .ref t8, .ref t11, .int 1, .int 0, .int 0, .int 0])), (t2, .inr (1, [.int 0, .ref t3, .ref t4, .ref t5, .ref t6, .ref t7])), (t8, .inr (0, [.ref t9, .ref t10])), (t9, .inl (k 0, 36, .inl (fun _ => 0)))]) [0, 1, 2, 3, 4] rfl
  have hD := hD.sub (ws' := [(rm0, .inr (10, [.ref e0, .ref d0, .ref v0, .ref t0, .ref n0, .ref s0, .ref z0, .ref g0, .ref h0, .ref o0, .ref j0, .ref j1, .ref j2, .ref j3, .int 0, .int (-1), .int (-1), .int (-1)])), (t0, .inr (8, [.int 0, .ref t1, .ref t2, .ref t8, .ref t11, .int 1, .int 0, .int 0, .int 0])), (t2, .inr (1, [.int 0, .ref t3, .ref t4, .ref t5, .ref t6, .ref t7])), (t8, .inr (0, [.ref t9, .ref t10])), (t9, .inl (k 0, 36, .inl (fun _ => 0)))]) [0, 1, 2, 3, 4] (by decide) rfl
  exact g_iret hx hb hr rfl hlocks hK (fun _ => 0) hP hD hS rfl dX12_now_55 ⟨Nat.le_of_ble_eq_true rfl, Nat.le_of_ble_eq_true rfl⟩
set_option maxHeartbeats 4000000 in
set_option maxRecDepth 100000 in
theorem cM_now1 (l : Launch) (D : va_G) (k : Nat → ClassId) (rm0 : Nat) (e0 : Nat) (d0 : Nat) (v0 : Nat) (t0 : Nat) (n0 : Nat) (s0 : Nat) (z0 : Nat) (g0 : Nat) (h0 : Nat) (o0 : Nat) (j0 : Nat) (j1 : Nat) (j2 : Nat) (j3 : Nat) (t1 : Nat) (t2 : Nat) (t3 : Nat) (t4 : Nat) (t5 : Nat) (t6 : Nat) (t7 : Nat) (t8 : Nat) (t9 : Nat) (t10 : Nat) (t11 : Nat) : g_Ci l yX12_now wsX12_now ({ frames := 2, cells := 0, slots := 0, locals := 43 }) D k g_E0 [.ref rm0, .int 1] [(rm0, .inr (10, [.ref e0, .ref d0, .ref v0, .ref t0, .ref n0, .ref s0, .ref z0, .ref g0, .ref h0, .ref o0, .ref j0, .ref j1, .ref j2, .ref j3, .int 0, .int (-1), .int (-1), .int (-1)])), (t0, .inr (8, [.int 0, .ref t1, .ref t2, .ref t8, .ref t11, .int 1, .int 0, .int 0, .int 0])), (t2, .inr (1, [.int 0, .ref t3, .ref t4, .ref t5, .ref t6, .ref t7])), (t8, .inr (0, [.ref t9, .ref t10])), (t9, .inl (k 0, 36, .inl (fun _ => 0)))] 0 (fun u => [(rm0, .inr (10, [.ref e0, .ref d0, .ref v0, .ref t0, .ref n0, .ref s0, .ref z0, .ref g0, .ref h0, .ref o0, .ref j0, .ref j1, .ref j2, .ref j3, .int 0, .int (-1), .int (-1), .int (-1)])), (t0, .inr (8, [.int 0, .ref t1, .ref t2, .ref t8, .ref t11, .int 1, .int 0, .int 0, .int 0])), (t2, .inr (1, [.int 0, .ref t3, .ref t4, .ref t5, .ref t6, .ref t7])), (t8, .inr (0, [.ref t9, .ref t10])), (t9, .inl (k 0, 36, .inl (fun _ => 0)))]) 0 0 := by
  intro sz
  refine Met.ofW (cc := cX12_now) (maxL := 2) (ret := (some .int)) (by decide) rfl ?_
  intro p e s m args below meth c s₁ B hml hv
  obtain ⟨rfl, hsz, hP, hK, hD0, hE⟩ := hv
  have hx := B.exec
  have hb := B.bytes
  have hr := B.returns
  have hts := atoms_spec (ws := wsX12_now) B.pre
  have hown : s.vm.findClass RX12 = some m.cls := findClass_of_methodNamed B.named
  have hlocks := B.notSynchronized
  subst hsz
  have hD := hD0.self (sz := s.heap.size)
  generalize hAe : va_A [(rm0, .inr (10, [.ref e0, .ref d0, .ref v0, .ref t0, .ref n0, .ref s0, .ref z0, .ref g0, .ref h0, .ref o0, .ref j0, .ref j1, .ref j2, .ref j3, .int 0, .int (-1), .int (-1), .int (-1)])), (t0, .inr (8, [.int 0, .ref t1, .ref t2, .ref t8, .ref t11, .int 1, .int 0, .int 0, .int 0])), (t2, .inr (1, [.int 0, .ref t3, .ref t4, .ref t5, .ref t6, .ref t7])), (t8, .inr (0, [.ref t9, .ref t10])), (t9, .inl (k 0, 36, .inl (fun _ => 0)))] s.heap.size = A at hD ⊢
  have hA : ∀ q : Nat, s.heap.size ≤ q → A q := fun q h => by rw [← hAe]; exact Or.inr h
  have hS : va_S A s.heap s.heap [] := va_S.rf
  have hP : va_P D vwCl [(rm0, .inr (10, [.ref e0, .ref d0, .ref v0, .ref t0, .ref n0, .ref s0, .ref z0, .ref g0, .ref h0, .ref o0, .ref j0, .ref j1, .ref j2, .ref j3, .int 0, .int (-1), .int (-1), .int (-1)])), (t0, .inr (8, [.int 0, .ref t1, .ref t2, .ref t8, .ref t11, .int 1, .int 0, .int 0, .int 0])), (t2, .inr (1, [.int 0, .ref t3, .ref t4, .ref t5, .ref t6, .ref t7])), (t8, .inr (0, [.ref t9, .ref t10])), (t9, .inl (k 0, 36, .inl (fun _ => 0)))] s.heap := hP
  have hl := lv_entry ([.ref rm0, .int 1]) (n := 2) (Nat.le_of_ble_eq_true rfl)
  rw [lg_entry_eq]
  generalize (lg_sl ([.ref rm0, .int 1]) ++ List.replicate (2 - (lg_sl ([.ref rm0, .int 1])).length) Slot.unset).toArray = ls at hl ⊢
  have hl : lv_has ls 2 [(0, .ref rm0), (1, .int 1)] := hl
  refine lv_iload_n hx hb dX12_now_0 rfl (lv_at hl 1 rfl) ?_
  refine lv_tableIn (tgt := 56) hx hb dX12_now_1 (by decide) (by decide) rfl (by decide) ?_
  refine lv_aload_n hx hb dX12_now_56 rfl (lv_at hl 0 rfl) ?_
  refine va_get (D := D) (ci := 10) (v := .ref t0) (C := RX12) (T := TX12) (N := 18) hx hb hts inX12_now_X12 hown hK hP 0 rfl rfl 3 (by decide) (hts (.fieldLink RX12 37 "RungMoney" "town" "LRungMoney$Town;") (by decide +kernel)) (fun _ h9 => h9) rfl dX12_now_57 ?_
  refine va_get (D := D) (ci := 8) (v := .ref t2) (C := RX10) (T := TX10) (N := 9) hx hb hts inX12_now_X10 hown hK hP 1 rfl rfl 2 (by decide) (hts (.fieldLink RX12 142 "RungMoney$Town" "ladders" "LRungMoney$Ladders;") (by decide +kernel)) (fun _ h9 => h9) rfl dX12_now_60 ?_
  refine g_iV (As := []) (rest := []) (wr := [(rm0, .inr (10, [.ref e0, .ref d0, .ref v0, .ref t0, .ref n0, .ref s0, .ref z0, .ref g0, .ref h0, .ref o0, .ref j0, .ref j1, .ref j2, .ref j3, .int 0, .int (-1), .int (-1), .int (-1)])), (t0, .inr (8, [.int 0, .ref t1, .ref t2, .ref t8, .ref t11, .int 1, .int 0, .int 0, .int 0])), (t8, .inr (0, [.ref t9, .ref t10])), (t9, .inl (k 0, 36, .inl (fun _ => 0)))]) ⟨hx, hb, hml, hown, hts⟩ (cL_bitsThere l D k t2 t3 t4 t5 t6 t7) (cwV 0 hts gX12_now_X3_bitsThere rfl rfl rfl (by decide +kernel) ⟨Nat.le_of_ble_eq_true rfl, Nat.le_of_ble_eq_true rfl⟩) g_E0_ok (fun _ _ _ => trivial) hK hP hD hS hA 2 1 rfl rfl rfl [2] [0, 1, 3, 4] rfl rfl (by decide) rfl hl.1 rfl (Nat.le_of_ble_eq_true rfl) dX12_now_63 ⟨Nat.le_of_ble_eq_true rfl, Nat.le_of_ble_eq_true rfl⟩ (fun u1 H locs hP hD hS => ?_)
  have hP : va_P D vwCl [(rm0, .inr (10, [.ref e0, .ref d0, .ref v0, .ref t0, .ref n0, .ref s0, .ref z0, .ref g0, .ref h0, .ref o0, .ref j0, .ref j1, .ref j2, .ref j3, .int 0, .int (-1), .int (-1), .int (-1)])), (t0, .inr (8, [.int 0, .ref t1, .ref t2, .ref t8, .ref t11, .int 1, .int 0, .int 0, .int 0])), (t8, .inr (0, [.ref t9, .ref t10])), (t9, .inl (k 0, 36, .inl (fun _ => 0))), (t2, .inr (1, [.int 0, .ref t3, .ref t4, .ref t5, .ref t6, .ref t7]))] H := hP
  have hD : va_D A [(rm0, .inr (10, [.ref e0, .ref d0, .ref v0, .ref t0, .ref n0, .ref s0, .ref z0, .ref g0, .ref h0, .ref o0, .ref j0, .ref j1, .ref j2, .ref j3, .int 0, .int (-1), .int (-1), .int (-1)])), (t0, .inr (8, [.int 0, .ref t1, .ref t2, .ref t8, .ref t11, .int 1, .int 0, .int 0, .int 0])), (t8, .inr (0, [.ref t9, .ref t10])), (t9, .inl (k 0, 36, .inl (fun _ => 0))), (t2, .inr (1, [.int 0, .ref t3, .ref t4, .ref t5, .ref t6, .ref t7]))] := hD
  have hP := hP.sub (ws' := [(rm0, .inr (10, [.ref e0, .ref d0, .ref v0, .ref t0, .ref n0, .ref s0, .ref z0, .ref g0, .ref h0, .ref o0, .ref j0, .ref j1, .ref j2, .ref j3, .int 0, .int (-1), .int (-1), .int (-1)])), (t0, .inr (8, [.int 0, .ref t1, .ref t2, .ref t8, .ref t11, .int 1, .int 0, .int 0, .int 0])), (t2, .inr (1, [.int 0, .ref t3, .ref t4, .ref t5, .ref t6, .ref t7])), (t8, .inr (0, [.ref t9, .ref t10])), (t9, .inl (k 0, 36, .inl (fun _ => 0)))]) [0, 1, 4, 2, 3] rfl
  have hD := hD.sub (ws' := [(rm0, .inr (10, [.ref e0, .ref d0, .ref v0, .ref t0, .ref n0, .ref s0, .ref z0, .ref g0, .ref h0, .ref o0, .ref j0, .ref j1, .ref j2, .ref j3, .int 0, .int (-1), .int (-1), .int (-1)])), (t0, .inr (8, [.int 0, .ref t1, .ref t2, .ref t8, .ref t11, .int 1, .int 0, .int 0, .int 0])), (t2, .inr (1, [.int 0, .ref t3, .ref t4, .ref t5, .ref t6, .ref t7])), (t8, .inr (0, [.ref t9, .ref t10])), (t9, .inl (k 0, 36, .inl (fun _ => 0)))]) [0, 1, 4, 2, 3] (by decide) rfl
  exact g_iret hx hb hr rfl hlocks hK (fun _ => 0) hP hD hS rfl dX12_now_66 ⟨Nat.le_of_ble_eq_true rfl, Nat.le_of_ble_eq_true rfl⟩
set_option maxHeartbeats 4000000 in
set_option maxRecDepth 100000 in
theorem cM_now2 (l : Launch) (D : va_G) (k : Nat → ClassId) (rm0 : Nat) (e0 : Nat) (d0 : Nat) (v0 : Nat) (t0 : Nat) (n0 : Nat) (s0 : Nat) (z0 : Nat) (g0 : Nat) (h0 : Nat) (o0 : Nat) (j0 : Nat) (j1 : Nat) (j2 : Nat) (j3 : Nat) (t1 : Nat) (t2 : Nat) (t3 : Nat) (t4 : Nat) (t5 : Nat) (t6 : Nat) (t7 : Nat) (t8 : Nat) (t9 : Nat) (t10 : Nat) (t11 : Nat) : g_Ci l yX12_now wsX12_now ({ frames := 0, cells := 0, slots := 0, locals := 0 }) D k g_E0 [.ref rm0, .int 2] [(rm0, .inr (10, [.ref e0, .ref d0, .ref v0, .ref t0, .ref n0, .ref s0, .ref z0, .ref g0, .ref h0, .ref o0, .ref j0, .ref j1, .ref j2, .ref j3, .int 0, .int (-1), .int (-1), .int (-1)])), (t0, .inr (8, [.int 0, .ref t1, .ref t2, .ref t8, .ref t11, .int 1, .int 0, .int 0, .int 0])), (t2, .inr (1, [.int 0, .ref t3, .ref t4, .ref t5, .ref t6, .ref t7])), (t8, .inr (0, [.ref t9, .ref t10])), (t9, .inl (k 0, 36, .inl (fun _ => 0)))] 0 (fun u => [(rm0, .inr (10, [.ref e0, .ref d0, .ref v0, .ref t0, .ref n0, .ref s0, .ref z0, .ref g0, .ref h0, .ref o0, .ref j0, .ref j1, .ref j2, .ref j3, .int 0, .int (-1), .int (-1), .int (-1)])), (t0, .inr (8, [.int 0, .ref t1, .ref t2, .ref t8, .ref t11, .int 1, .int 0, .int 0, .int 0])), (t2, .inr (1, [.int 0, .ref t3, .ref t4, .ref t5, .ref t6, .ref t7])), (t8, .inr (0, [.ref t9, .ref t10])), (t9, .inl (k 0, 36, .inl (fun _ => 0)))]) 0 0 := by
  intro sz
  refine Met.ofW (cc := cX12_now) (maxL := 2) (ret := (some .int)) (by decide) rfl ?_
  intro p e s m args below meth c s₁ B hml hv
  obtain ⟨rfl, hsz, hP, hK, hD0, hE⟩ := hv
  have hx := B.exec
  have hb := B.bytes
  have hr := B.returns
  have hts := atoms_spec (ws := wsX12_now) B.pre
  have hown : s.vm.findClass RX12 = some m.cls := findClass_of_methodNamed B.named
  have hlocks := B.notSynchronized
  subst hsz
  have hD := hD0.self (sz := s.heap.size)
  generalize hAe : va_A [(rm0, .inr (10, [.ref e0, .ref d0, .ref v0, .ref t0, .ref n0, .ref s0, .ref z0, .ref g0, .ref h0, .ref o0, .ref j0, .ref j1, .ref j2, .ref j3, .int 0, .int (-1), .int (-1), .int (-1)])), (t0, .inr (8, [.int 0, .ref t1, .ref t2, .ref t8, .ref t11, .int 1, .int 0, .int 0, .int 0])), (t2, .inr (1, [.int 0, .ref t3, .ref t4, .ref t5, .ref t6, .ref t7])), (t8, .inr (0, [.ref t9, .ref t10])), (t9, .inl (k 0, 36, .inl (fun _ => 0)))] s.heap.size = A at hD ⊢
  have hA : ∀ q : Nat, s.heap.size ≤ q → A q := fun q h => by rw [← hAe]; exact Or.inr h
  have hS : va_S A s.heap s.heap [] := va_S.rf
  have hP : va_P D vwCl [(rm0, .inr (10, [.ref e0, .ref d0, .ref v0, .ref t0, .ref n0, .ref s0, .ref z0, .ref g0, .ref h0, .ref o0, .ref j0, .ref j1, .ref j2, .ref j3, .int 0, .int (-1), .int (-1), .int (-1)])), (t0, .inr (8, [.int 0, .ref t1, .ref t2, .ref t8, .ref t11, .int 1, .int 0, .int 0, .int 0])), (t2, .inr (1, [.int 0, .ref t3, .ref t4, .ref t5, .ref t6, .ref t7])), (t8, .inr (0, [.ref t9, .ref t10])), (t9, .inl (k 0, 36, .inl (fun _ => 0)))] s.heap := hP
  have hl := lv_entry ([.ref rm0, .int 2]) (n := 2) (Nat.le_of_ble_eq_true rfl)
  rw [lg_entry_eq]
  generalize (lg_sl ([.ref rm0, .int 2]) ++ List.replicate (2 - (lg_sl ([.ref rm0, .int 2])).length) Slot.unset).toArray = ls at hl ⊢
  have hl : lv_has ls 2 [(0, .ref rm0), (1, .int 2)] := hl
  refine lv_iload_n hx hb dX12_now_0 rfl (lv_at hl 1 rfl) ?_
  refine lv_tableIn (tgt := 67) hx hb dX12_now_1 (by decide) (by decide) rfl (by decide) ?_
  refine lv_aload_n hx hb dX12_now_67 rfl (lv_at hl 0 rfl) ?_
  refine va_get (D := D) (ci := 10) (v := .ref t0) (C := RX12) (T := TX12) (N := 18) hx hb hts inX12_now_X12 hown hK hP 0 rfl rfl 3 (by decide) (hts (.fieldLink RX12 37 "RungMoney" "town" "LRungMoney$Town;") (by decide +kernel)) (fun _ h9 => h9) rfl dX12_now_68 ?_
  refine va_get (D := D) (ci := 8) (v := .int 0) (C := RX10) (T := TX10) (N := 9) hx hb hts inX12_now_X10 hown hK hP 1 rfl rfl 7 (by decide) (hts (.fieldLink RX12 200 "RungMoney$Town" "mint" "I") (by decide +kernel)) (fun _ h9 => h9) rfl dX12_now_71 ?_
  have hP := hP.sub (ws' := [(rm0, .inr (10, [.ref e0, .ref d0, .ref v0, .ref t0, .ref n0, .ref s0, .ref z0, .ref g0, .ref h0, .ref o0, .ref j0, .ref j1, .ref j2, .ref j3, .int 0, .int (-1), .int (-1), .int (-1)])), (t0, .inr (8, [.int 0, .ref t1, .ref t2, .ref t8, .ref t11, .int 1, .int 0, .int 0, .int 0])), (t2, .inr (1, [.int 0, .ref t3, .ref t4, .ref t5, .ref t6, .ref t7])), (t8, .inr (0, [.ref t9, .ref t10])), (t9, .inl (k 0, 36, .inl (fun _ => 0)))]) [0, 1, 2, 3, 4] rfl
  have hD := hD.sub (ws' := [(rm0, .inr (10, [.ref e0, .ref d0, .ref v0, .ref t0, .ref n0, .ref s0, .ref z0, .ref g0, .ref h0, .ref o0, .ref j0, .ref j1, .ref j2, .ref j3, .int 0, .int (-1), .int (-1), .int (-1)])), (t0, .inr (8, [.int 0, .ref t1, .ref t2, .ref t8, .ref t11, .int 1, .int 0, .int 0, .int 0])), (t2, .inr (1, [.int 0, .ref t3, .ref t4, .ref t5, .ref t6, .ref t7])), (t8, .inr (0, [.ref t9, .ref t10])), (t9, .inl (k 0, 36, .inl (fun _ => 0)))]) [0, 1, 2, 3, 4] (by decide) rfl
  exact g_iret hx hb hr rfl hlocks hK (fun _ => 0) hP hD hS rfl dX12_now_74 ⟨Nat.le_of_ble_eq_true rfl, Nat.le_of_ble_eq_true rfl⟩
set_option maxHeartbeats 4000000 in
set_option maxRecDepth 100000 in
theorem cM_now3 (l : Launch) (D : va_G) (k : Nat → ClassId) (rm0 : Nat) (e0 : Nat) (d0 : Nat) (v0 : Nat) (t0 : Nat) (n0 : Nat) (s0 : Nat) (z0 : Nat) (g0 : Nat) (h0 : Nat) (o0 : Nat) (j0 : Nat) (j1 : Nat) (j2 : Nat) (j3 : Nat) (t1 : Nat) (t2 : Nat) (t3 : Nat) (t4 : Nat) (t5 : Nat) (t6 : Nat) (t7 : Nat) (t8 : Nat) (t9 : Nat) (t10 : Nat) (t11 : Nat) : g_Ci l yX12_now wsX12_now ({ frames := 1, cells := 0, slots := 0, locals := 22 }) D k g_E0 [.ref rm0, .int 3] [(rm0, .inr (10, [.ref e0, .ref d0, .ref v0, .ref t0, .ref n0, .ref s0, .ref z0, .ref g0, .ref h0, .ref o0, .ref j0, .ref j1, .ref j2, .ref j3, .int 0, .int (-1), .int (-1), .int (-1)])), (t0, .inr (8, [.int 0, .ref t1, .ref t2, .ref t8, .ref t11, .int 1, .int 0, .int 0, .int 0])), (t2, .inr (1, [.int 0, .ref t3, .ref t4, .ref t5, .ref t6, .ref t7])), (t8, .inr (0, [.ref t9, .ref t10])), (t9, .inl (k 0, 36, .inl (fun _ => 0)))] 0 (fun u => [(rm0, .inr (10, [.ref e0, .ref d0, .ref v0, .ref t0, .ref n0, .ref s0, .ref z0, .ref g0, .ref h0, .ref o0, .ref j0, .ref j1, .ref j2, .ref j3, .int 0, .int (-1), .int (-1), .int (-1)])), (t0, .inr (8, [.int 0, .ref t1, .ref t2, .ref t8, .ref t11, .int 1, .int 0, .int 0, .int 0])), (t2, .inr (1, [.int 0, .ref t3, .ref t4, .ref t5, .ref t6, .ref t7])), (t8, .inr (0, [.ref t9, .ref t10])), (t9, .inl (k 0, 36, .inl (fun _ => 0)))]) 0 0 := by
  intro sz
  refine Met.ofW (cc := cX12_now) (maxL := 2) (ret := (some .int)) (by decide) rfl ?_
  intro p e s m args below meth c s₁ B hml hv
  obtain ⟨rfl, hsz, hP, hK, hD0, hE⟩ := hv
  have hx := B.exec
  have hb := B.bytes
  have hr := B.returns
  have hts := atoms_spec (ws := wsX12_now) B.pre
  have hown : s.vm.findClass RX12 = some m.cls := findClass_of_methodNamed B.named
  have hlocks := B.notSynchronized
  subst hsz
  have hD := hD0.self (sz := s.heap.size)
  generalize hAe : va_A [(rm0, .inr (10, [.ref e0, .ref d0, .ref v0, .ref t0, .ref n0, .ref s0, .ref z0, .ref g0, .ref h0, .ref o0, .ref j0, .ref j1, .ref j2, .ref j3, .int 0, .int (-1), .int (-1), .int (-1)])), (t0, .inr (8, [.int 0, .ref t1, .ref t2, .ref t8, .ref t11, .int 1, .int 0, .int 0, .int 0])), (t2, .inr (1, [.int 0, .ref t3, .ref t4, .ref t5, .ref t6, .ref t7])), (t8, .inr (0, [.ref t9, .ref t10])), (t9, .inl (k 0, 36, .inl (fun _ => 0)))] s.heap.size = A at hD ⊢
  have hA : ∀ q : Nat, s.heap.size ≤ q → A q := fun q h => by rw [← hAe]; exact Or.inr h
  have hS : va_S A s.heap s.heap [] := va_S.rf
  have hP : va_P D vwCl [(rm0, .inr (10, [.ref e0, .ref d0, .ref v0, .ref t0, .ref n0, .ref s0, .ref z0, .ref g0, .ref h0, .ref o0, .ref j0, .ref j1, .ref j2, .ref j3, .int 0, .int (-1), .int (-1), .int (-1)])), (t0, .inr (8, [.int 0, .ref t1, .ref t2, .ref t8, .ref t11, .int 1, .int 0, .int 0, .int 0])), (t2, .inr (1, [.int 0, .ref t3, .ref t4, .ref t5, .ref t6, .ref t7])), (t8, .inr (0, [.ref t9, .ref t10])), (t9, .inl (k 0, 36, .inl (fun _ => 0)))] s.heap := hP
  have hl := lv_entry ([.ref rm0, .int 3]) (n := 2) (Nat.le_of_ble_eq_true rfl)
  rw [lg_entry_eq]
  generalize (lg_sl ([.ref rm0, .int 3]) ++ List.replicate (2 - (lg_sl ([.ref rm0, .int 3])).length) Slot.unset).toArray = ls at hl ⊢
  have hl : lv_has ls 2 [(0, .ref rm0), (1, .int 3)] := hl
  refine lv_iload_n hx hb dX12_now_0 rfl (lv_at hl 1 rfl) ?_
  refine lv_tableIn (tgt := 75) hx hb dX12_now_1 (by decide) (by decide) rfl (by decide) ?_
  refine lv_aload_n hx hb dX12_now_75 rfl (lv_at hl 0 rfl) ?_
  refine va_get (D := D) (ci := 10) (v := .ref t0) (C := RX12) (T := TX12) (N := 18) hx hb hts inX12_now_X12 hown hK hP 0 rfl rfl 3 (by decide) (hts (.fieldLink RX12 37 "RungMoney" "town" "LRungMoney$Town;") (by decide +kernel)) (fun _ h9 => h9) rfl dX12_now_76 ?_
  refine va_get (D := D) (ci := 8) (v := .ref t8) (C := RX10) (T := TX10) (N := 9) hx hb hts inX12_now_X10 hown hK hP 1 rfl rfl 3 (by decide) (hts (.fieldLink RX12 172 "RungMoney$Town" "debts" "LRungMoney$Debts;") (by decide +kernel)) (fun _ h9 => h9) rfl dX12_now_79 ?_
  refine g_iV (As := []) (rest := []) (wr := [(rm0, .inr (10, [.ref e0, .ref d0, .ref v0, .ref t0, .ref n0, .ref s0, .ref z0, .ref g0, .ref h0, .ref o0, .ref j0, .ref j1, .ref j2, .ref j3, .int 0, .int (-1), .int (-1), .int (-1)])), (t0, .inr (8, [.int 0, .ref t1, .ref t2, .ref t8, .ref t11, .int 1, .int 0, .int 0, .int 0])), (t2, .inr (1, [.int 0, .ref t3, .ref t4, .ref t5, .ref t6, .ref t7]))]) ⟨hx, hb, hml, hown, hts⟩ (cD_all l D k t8 t9 t10) (cwV 0 hts gX12_now_X1_all rfl rfl rfl (by decide +kernel) ⟨Nat.le_of_ble_eq_true rfl, Nat.le_of_ble_eq_true rfl⟩) g_E0_ok (fun _ _ _ => trivial) hK hP hD hS hA 3 0 rfl rfl rfl [3, 4] [0, 1, 2] rfl rfl (by decide) rfl hl.1 rfl (Nat.le_of_ble_eq_true rfl) dX12_now_82 ⟨Nat.le_of_ble_eq_true rfl, Nat.le_of_ble_eq_true rfl⟩ (fun u1 H locs hP hD hS => ?_)
  have hP : va_P D vwCl [(rm0, .inr (10, [.ref e0, .ref d0, .ref v0, .ref t0, .ref n0, .ref s0, .ref z0, .ref g0, .ref h0, .ref o0, .ref j0, .ref j1, .ref j2, .ref j3, .int 0, .int (-1), .int (-1), .int (-1)])), (t0, .inr (8, [.int 0, .ref t1, .ref t2, .ref t8, .ref t11, .int 1, .int 0, .int 0, .int 0])), (t2, .inr (1, [.int 0, .ref t3, .ref t4, .ref t5, .ref t6, .ref t7])), (t8, .inr (0, [.ref t9, .ref t10])), (t9, .inl (k 0, 36, .inl (fun _ => 0)))] H := hP
  have hD : va_D A [(rm0, .inr (10, [.ref e0, .ref d0, .ref v0, .ref t0, .ref n0, .ref s0, .ref z0, .ref g0, .ref h0, .ref o0, .ref j0, .ref j1, .ref j2, .ref j3, .int 0, .int (-1), .int (-1), .int (-1)])), (t0, .inr (8, [.int 0, .ref t1, .ref t2, .ref t8, .ref t11, .int 1, .int 0, .int 0, .int 0])), (t2, .inr (1, [.int 0, .ref t3, .ref t4, .ref t5, .ref t6, .ref t7])), (t8, .inr (0, [.ref t9, .ref t10])), (t9, .inl (k 0, 36, .inl (fun _ => 0)))] := hD
  have hP := hP.sub (ws' := [(rm0, .inr (10, [.ref e0, .ref d0, .ref v0, .ref t0, .ref n0, .ref s0, .ref z0, .ref g0, .ref h0, .ref o0, .ref j0, .ref j1, .ref j2, .ref j3, .int 0, .int (-1), .int (-1), .int (-1)])), (t0, .inr (8, [.int 0, .ref t1, .ref t2, .ref t8, .ref t11, .int 1, .int 0, .int 0, .int 0])), (t2, .inr (1, [.int 0, .ref t3, .ref t4, .ref t5, .ref t6, .ref t7])), (t8, .inr (0, [.ref t9, .ref t10])), (t9, .inl (k 0, 36, .inl (fun _ => 0)))]) [0, 1, 2, 3, 4] rfl
  have hD := hD.sub (ws' := [(rm0, .inr (10, [.ref e0, .ref d0, .ref v0, .ref t0, .ref n0, .ref s0, .ref z0, .ref g0, .ref h0, .ref o0, .ref j0, .ref j1, .ref j2, .ref j3, .int 0, .int (-1), .int (-1), .int (-1)])), (t0, .inr (8, [.int 0, .ref t1, .ref t2, .ref t8, .ref t11, .int 1, .int 0, .int 0, .int 0])), (t2, .inr (1, [.int 0, .ref t3, .ref t4, .ref t5, .ref t6, .ref t7])), (t8, .inr (0, [.ref t9, .ref t10])), (t9, .inl (k 0, 36, .inl (fun _ => 0)))]) [0, 1, 2, 3, 4] (by decide) rfl
  exact g_iret hx hb hr rfl hlocks hK (fun _ => 0) hP hD hS rfl dX12_now_85 ⟨Nat.le_of_ble_eq_true rfl, Nat.le_of_ble_eq_true rfl⟩
set_option maxHeartbeats 4000000 in
set_option maxRecDepth 100000 in
theorem cM_now4 (l : Launch) (D : va_G) (k : Nat → ClassId) (rm0 : Nat) (e0 : Nat) (d0 : Nat) (v0 : Nat) (t0 : Nat) (n0 : Nat) (s0 : Nat) (z0 : Nat) (g0 : Nat) (h0 : Nat) (o0 : Nat) (j0 : Nat) (j1 : Nat) (j2 : Nat) (j3 : Nat) (t1 : Nat) (t2 : Nat) (t3 : Nat) (t4 : Nat) (t5 : Nat) (t6 : Nat) (t7 : Nat) (t8 : Nat) (t9 : Nat) (t10 : Nat) (t11 : Nat) : g_Ci l yX12_now wsX12_now ({ frames := 1, cells := 0, slots := 0, locals := 23 }) D k g_E0 [.ref rm0, .int 4] [(rm0, .inr (10, [.ref e0, .ref d0, .ref v0, .ref t0, .ref n0, .ref s0, .ref z0, .ref g0, .ref h0, .ref o0, .ref j0, .ref j1, .ref j2, .ref j3, .int 0, .int (-1), .int (-1), .int (-1)])), (t0, .inr (8, [.int 0, .ref t1, .ref t2, .ref t8, .ref t11, .int 1, .int 0, .int 0, .int 0])), (t2, .inr (1, [.int 0, .ref t3, .ref t4, .ref t5, .ref t6, .ref t7])), (t8, .inr (0, [.ref t9, .ref t10])), (t9, .inl (k 0, 36, .inl (fun _ => 0)))] 0 (fun u => [(rm0, .inr (10, [.ref e0, .ref d0, .ref v0, .ref t0, .ref n0, .ref s0, .ref z0, .ref g0, .ref h0, .ref o0, .ref j0, .ref j1, .ref j2, .ref j3, .int 0, .int (-1), .int (-1), .int (-1)])), (t0, .inr (8, [.int 0, .ref t1, .ref t2, .ref t8, .ref t11, .int 1, .int 0, .int 0, .int 0])), (t2, .inr (1, [.int 0, .ref t3, .ref t4, .ref t5, .ref t6, .ref t7])), (t8, .inr (0, [.ref t9, .ref t10])), (t9, .inl (k 0, 36, .inl (fun _ => 0)))]) 0 0 := by
  intro sz
  refine Met.ofW (cc := cX12_now) (maxL := 2) (ret := (some .int)) (by decide) rfl ?_
  intro p e s m args below meth c s₁ B hml hv
  obtain ⟨rfl, hsz, hP, hK, hD0, hE⟩ := hv
  have hx := B.exec
  have hb := B.bytes
  have hr := B.returns
  have hts := atoms_spec (ws := wsX12_now) B.pre
  have hown : s.vm.findClass RX12 = some m.cls := findClass_of_methodNamed B.named
  have hlocks := B.notSynchronized
  subst hsz
  have hD := hD0.self (sz := s.heap.size)
  generalize hAe : va_A [(rm0, .inr (10, [.ref e0, .ref d0, .ref v0, .ref t0, .ref n0, .ref s0, .ref z0, .ref g0, .ref h0, .ref o0, .ref j0, .ref j1, .ref j2, .ref j3, .int 0, .int (-1), .int (-1), .int (-1)])), (t0, .inr (8, [.int 0, .ref t1, .ref t2, .ref t8, .ref t11, .int 1, .int 0, .int 0, .int 0])), (t2, .inr (1, [.int 0, .ref t3, .ref t4, .ref t5, .ref t6, .ref t7])), (t8, .inr (0, [.ref t9, .ref t10])), (t9, .inl (k 0, 36, .inl (fun _ => 0)))] s.heap.size = A at hD ⊢
  have hA : ∀ q : Nat, s.heap.size ≤ q → A q := fun q h => by rw [← hAe]; exact Or.inr h
  have hS : va_S A s.heap s.heap [] := va_S.rf
  have hP : va_P D vwCl [(rm0, .inr (10, [.ref e0, .ref d0, .ref v0, .ref t0, .ref n0, .ref s0, .ref z0, .ref g0, .ref h0, .ref o0, .ref j0, .ref j1, .ref j2, .ref j3, .int 0, .int (-1), .int (-1), .int (-1)])), (t0, .inr (8, [.int 0, .ref t1, .ref t2, .ref t8, .ref t11, .int 1, .int 0, .int 0, .int 0])), (t2, .inr (1, [.int 0, .ref t3, .ref t4, .ref t5, .ref t6, .ref t7])), (t8, .inr (0, [.ref t9, .ref t10])), (t9, .inl (k 0, 36, .inl (fun _ => 0)))] s.heap := hP
  have hl := lv_entry ([.ref rm0, .int 4]) (n := 2) (Nat.le_of_ble_eq_true rfl)
  rw [lg_entry_eq]
  generalize (lg_sl ([.ref rm0, .int 4]) ++ List.replicate (2 - (lg_sl ([.ref rm0, .int 4])).length) Slot.unset).toArray = ls at hl ⊢
  have hl : lv_has ls 2 [(0, .ref rm0), (1, .int 4)] := hl
  refine lv_iload_n hx hb dX12_now_0 rfl (lv_at hl 1 rfl) ?_
  refine lv_tableIn (tgt := 86) hx hb dX12_now_1 (by decide) (by decide) rfl (by decide) ?_
  refine lv_aload_n hx hb dX12_now_86 rfl (lv_at hl 0 rfl) ?_
  refine va_get (D := D) (ci := 10) (v := .ref t0) (C := RX12) (T := TX12) (N := 18) hx hb hts inX12_now_X12 hown hK hP 0 rfl rfl 3 (by decide) (hts (.fieldLink RX12 37 "RungMoney" "town" "LRungMoney$Town;") (by decide +kernel)) (fun _ h9 => h9) rfl dX12_now_87 ?_
  refine va_get (D := D) (ci := 8) (v := .ref t2) (C := RX10) (T := TX10) (N := 9) hx hb hts inX12_now_X10 hown hK hP 1 rfl rfl 2 (by decide) (hts (.fieldLink RX12 142 "RungMoney$Town" "ladders" "LRungMoney$Ladders;") (by decide +kernel)) (fun _ h9 => h9) rfl dX12_now_90 ?_
  refine lv_iconst (v := 2) hx hb dX12_now_93 (by decide) ?_
  refine g_iV (As := [.int 2]) (rest := []) (wr := [(rm0, .inr (10, [.ref e0, .ref d0, .ref v0, .ref t0, .ref n0, .ref s0, .ref z0, .ref g0, .ref h0, .ref o0, .ref j0, .ref j1, .ref j2, .ref j3, .int 0, .int (-1), .int (-1), .int (-1)])), (t0, .inr (8, [.int 0, .ref t1, .ref t2, .ref t8, .ref t11, .int 1, .int 0, .int 0, .int 0])), (t8, .inr (0, [.ref t9, .ref t10])), (t9, .inl (k 0, 36, .inl (fun _ => 0)))]) ⟨hx, hb, hml, hown, hts⟩ (cL_sum l D k t2 t3 t4 t5 t6 t7 2) (cwV 1 hts gX12_now_X3_sum rfl rfl rfl (by decide +kernel) ⟨Nat.le_of_ble_eq_true rfl, Nat.le_of_ble_eq_true rfl⟩) g_E0_ok (fun _ _ _ => trivial) hK hP hD hS hA 2 1 rfl rfl rfl [2] [0, 1, 3, 4] rfl rfl (by decide) rfl hl.1 rfl (Nat.le_of_ble_eq_true rfl) dX12_now_94 ⟨Nat.le_of_ble_eq_true rfl, Nat.le_of_ble_eq_true rfl⟩ (fun u1 H locs hP hD hS => ?_)
  have hP : va_P D vwCl [(rm0, .inr (10, [.ref e0, .ref d0, .ref v0, .ref t0, .ref n0, .ref s0, .ref z0, .ref g0, .ref h0, .ref o0, .ref j0, .ref j1, .ref j2, .ref j3, .int 0, .int (-1), .int (-1), .int (-1)])), (t0, .inr (8, [.int 0, .ref t1, .ref t2, .ref t8, .ref t11, .int 1, .int 0, .int 0, .int 0])), (t8, .inr (0, [.ref t9, .ref t10])), (t9, .inl (k 0, 36, .inl (fun _ => 0))), (t2, .inr (1, [.int 0, .ref t3, .ref t4, .ref t5, .ref t6, .ref t7]))] H := hP
  have hD : va_D A [(rm0, .inr (10, [.ref e0, .ref d0, .ref v0, .ref t0, .ref n0, .ref s0, .ref z0, .ref g0, .ref h0, .ref o0, .ref j0, .ref j1, .ref j2, .ref j3, .int 0, .int (-1), .int (-1), .int (-1)])), (t0, .inr (8, [.int 0, .ref t1, .ref t2, .ref t8, .ref t11, .int 1, .int 0, .int 0, .int 0])), (t8, .inr (0, [.ref t9, .ref t10])), (t9, .inl (k 0, 36, .inl (fun _ => 0))), (t2, .inr (1, [.int 0, .ref t3, .ref t4, .ref t5, .ref t6, .ref t7]))] := hD
  have hP := hP.sub (ws' := [(rm0, .inr (10, [.ref e0, .ref d0, .ref v0, .ref t0, .ref n0, .ref s0, .ref z0, .ref g0, .ref h0, .ref o0, .ref j0, .ref j1, .ref j2, .ref j3, .int 0, .int (-1), .int (-1), .int (-1)])), (t0, .inr (8, [.int 0, .ref t1, .ref t2, .ref t8, .ref t11, .int 1, .int 0, .int 0, .int 0])), (t2, .inr (1, [.int 0, .ref t3, .ref t4, .ref t5, .ref t6, .ref t7])), (t8, .inr (0, [.ref t9, .ref t10])), (t9, .inl (k 0, 36, .inl (fun _ => 0)))]) [0, 1, 4, 2, 3] rfl
  have hD := hD.sub (ws' := [(rm0, .inr (10, [.ref e0, .ref d0, .ref v0, .ref t0, .ref n0, .ref s0, .ref z0, .ref g0, .ref h0, .ref o0, .ref j0, .ref j1, .ref j2, .ref j3, .int 0, .int (-1), .int (-1), .int (-1)])), (t0, .inr (8, [.int 0, .ref t1, .ref t2, .ref t8, .ref t11, .int 1, .int 0, .int 0, .int 0])), (t2, .inr (1, [.int 0, .ref t3, .ref t4, .ref t5, .ref t6, .ref t7])), (t8, .inr (0, [.ref t9, .ref t10])), (t9, .inl (k 0, 36, .inl (fun _ => 0)))]) [0, 1, 4, 2, 3] (by decide) rfl
  exact g_iret hx hb hr rfl hlocks hK (fun _ => 0) hP hD hS rfl dX12_now_97 ⟨Nat.le_of_ble_eq_true rfl, Nat.le_of_ble_eq_true rfl⟩
set_option maxHeartbeats 4000000 in
set_option maxRecDepth 100000 in
theorem cM_now5 (l : Launch) (D : va_G) (k : Nat → ClassId) (rm0 : Nat) (e0 : Nat) (d0 : Nat) (v0 : Nat) (t0 : Nat) (n0 : Nat) (s0 : Nat) (z0 : Nat) (g0 : Nat) (h0 : Nat) (o0 : Nat) (j0 : Nat) (j1 : Nat) (j2 : Nat) (j3 : Nat) (t1 : Nat) (t2 : Nat) (t3 : Nat) (t4 : Nat) (t5 : Nat) (t6 : Nat) (t7 : Nat) (t8 : Nat) (t9 : Nat) (t10 : Nat) (t11 : Nat) : g_Ci l yX12_now wsX12_now ({ frames := 1, cells := 0, slots := 0, locals := 23 }) D k g_E0 [.ref rm0, .int 5] [(rm0, .inr (10, [.ref e0, .ref d0, .ref v0, .ref t0, .ref n0, .ref s0, .ref z0, .ref g0, .ref h0, .ref o0, .ref j0, .ref j1, .ref j2, .ref j3, .int 0, .int (-1), .int (-1), .int (-1)])), (t0, .inr (8, [.int 0, .ref t1, .ref t2, .ref t8, .ref t11, .int 1, .int 0, .int 0, .int 0])), (t2, .inr (1, [.int 0, .ref t3, .ref t4, .ref t5, .ref t6, .ref t7])), (t8, .inr (0, [.ref t9, .ref t10])), (t9, .inl (k 0, 36, .inl (fun _ => 0)))] 0 (fun u => [(rm0, .inr (10, [.ref e0, .ref d0, .ref v0, .ref t0, .ref n0, .ref s0, .ref z0, .ref g0, .ref h0, .ref o0, .ref j0, .ref j1, .ref j2, .ref j3, .int 0, .int (-1), .int (-1), .int (-1)])), (t0, .inr (8, [.int 0, .ref t1, .ref t2, .ref t8, .ref t11, .int 1, .int 0, .int 0, .int 0])), (t2, .inr (1, [.int 0, .ref t3, .ref t4, .ref t5, .ref t6, .ref t7])), (t8, .inr (0, [.ref t9, .ref t10])), (t9, .inl (k 0, 36, .inl (fun _ => 0)))]) 0 0 := by
  intro sz
  refine Met.ofW (cc := cX12_now) (maxL := 2) (ret := (some .int)) (by decide) rfl ?_
  intro p e s m args below meth c s₁ B hml hv
  obtain ⟨rfl, hsz, hP, hK, hD0, hE⟩ := hv
  have hx := B.exec
  have hb := B.bytes
  have hr := B.returns
  have hts := atoms_spec (ws := wsX12_now) B.pre
  have hown : s.vm.findClass RX12 = some m.cls := findClass_of_methodNamed B.named
  have hlocks := B.notSynchronized
  subst hsz
  have hD := hD0.self (sz := s.heap.size)
  generalize hAe : va_A [(rm0, .inr (10, [.ref e0, .ref d0, .ref v0, .ref t0, .ref n0, .ref s0, .ref z0, .ref g0, .ref h0, .ref o0, .ref j0, .ref j1, .ref j2, .ref j3, .int 0, .int (-1), .int (-1), .int (-1)])), (t0, .inr (8, [.int 0, .ref t1, .ref t2, .ref t8, .ref t11, .int 1, .int 0, .int 0, .int 0])), (t2, .inr (1, [.int 0, .ref t3, .ref t4, .ref t5, .ref t6, .ref t7])), (t8, .inr (0, [.ref t9, .ref t10])), (t9, .inl (k 0, 36, .inl (fun _ => 0)))] s.heap.size = A at hD ⊢
  have hA : ∀ q : Nat, s.heap.size ≤ q → A q := fun q h => by rw [← hAe]; exact Or.inr h
  have hS : va_S A s.heap s.heap [] := va_S.rf
  have hP : va_P D vwCl [(rm0, .inr (10, [.ref e0, .ref d0, .ref v0, .ref t0, .ref n0, .ref s0, .ref z0, .ref g0, .ref h0, .ref o0, .ref j0, .ref j1, .ref j2, .ref j3, .int 0, .int (-1), .int (-1), .int (-1)])), (t0, .inr (8, [.int 0, .ref t1, .ref t2, .ref t8, .ref t11, .int 1, .int 0, .int 0, .int 0])), (t2, .inr (1, [.int 0, .ref t3, .ref t4, .ref t5, .ref t6, .ref t7])), (t8, .inr (0, [.ref t9, .ref t10])), (t9, .inl (k 0, 36, .inl (fun _ => 0)))] s.heap := hP
  have hl := lv_entry ([.ref rm0, .int 5]) (n := 2) (Nat.le_of_ble_eq_true rfl)
  rw [lg_entry_eq]
  generalize (lg_sl ([.ref rm0, .int 5]) ++ List.replicate (2 - (lg_sl ([.ref rm0, .int 5])).length) Slot.unset).toArray = ls at hl ⊢
  have hl : lv_has ls 2 [(0, .ref rm0), (1, .int 5)] := hl
  refine lv_iload_n hx hb dX12_now_0 rfl (lv_at hl 1 rfl) ?_
  refine lv_tableIn (tgt := 98) hx hb dX12_now_1 (by decide) (by decide) rfl (by decide) ?_
  refine lv_aload_n hx hb dX12_now_98 rfl (lv_at hl 0 rfl) ?_
  refine va_get (D := D) (ci := 10) (v := .ref t0) (C := RX12) (T := TX12) (N := 18) hx hb hts inX12_now_X12 hown hK hP 0 rfl rfl 3 (by decide) (hts (.fieldLink RX12 37 "RungMoney" "town" "LRungMoney$Town;") (by decide +kernel)) (fun _ h9 => h9) rfl dX12_now_99 ?_
  refine va_get (D := D) (ci := 8) (v := .ref t2) (C := RX10) (T := TX10) (N := 9) hx hb hts inX12_now_X10 hown hK hP 1 rfl rfl 2 (by decide) (hts (.fieldLink RX12 142 "RungMoney$Town" "ladders" "LRungMoney$Ladders;") (by decide +kernel)) (fun _ h9 => h9) rfl dX12_now_102 ?_
  refine lv_iconst (v := 3) hx hb dX12_now_105 (by decide) ?_
  refine g_iV (As := [.int 3]) (rest := []) (wr := [(rm0, .inr (10, [.ref e0, .ref d0, .ref v0, .ref t0, .ref n0, .ref s0, .ref z0, .ref g0, .ref h0, .ref o0, .ref j0, .ref j1, .ref j2, .ref j3, .int 0, .int (-1), .int (-1), .int (-1)])), (t0, .inr (8, [.int 0, .ref t1, .ref t2, .ref t8, .ref t11, .int 1, .int 0, .int 0, .int 0])), (t8, .inr (0, [.ref t9, .ref t10])), (t9, .inl (k 0, 36, .inl (fun _ => 0)))]) ⟨hx, hb, hml, hown, hts⟩ (cL_sum l D k t2 t3 t4 t5 t6 t7 3) (cwV 1 hts gX12_now_X3_sum rfl rfl rfl (by decide +kernel) ⟨Nat.le_of_ble_eq_true rfl, Nat.le_of_ble_eq_true rfl⟩) g_E0_ok (fun _ _ _ => trivial) hK hP hD hS hA 2 1 rfl rfl rfl [2] [0, 1, 3, 4] rfl rfl (by decide) rfl hl.1 rfl (Nat.le_of_ble_eq_true rfl) dX12_now_106 ⟨Nat.le_of_ble_eq_true rfl, Nat.le_of_ble_eq_true rfl⟩ (fun u1 H locs hP hD hS => ?_)
  have hP : va_P D vwCl [(rm0, .inr (10, [.ref e0, .ref d0, .ref v0, .ref t0, .ref n0, .ref s0, .ref z0, .ref g0, .ref h0, .ref o0, .ref j0, .ref j1, .ref j2, .ref j3, .int 0, .int (-1), .int (-1), .int (-1)])), (t0, .inr (8, [.int 0, .ref t1, .ref t2, .ref t8, .ref t11, .int 1, .int 0, .int 0, .int 0])), (t8, .inr (0, [.ref t9, .ref t10])), (t9, .inl (k 0, 36, .inl (fun _ => 0))), (t2, .inr (1, [.int 0, .ref t3, .ref t4, .ref t5, .ref t6, .ref t7]))] H := hP
  have hD : va_D A [(rm0, .inr (10, [.ref e0, .ref d0, .ref v0, .ref t0, .ref n0, .ref s0, .ref z0, .ref g0, .ref h0, .ref o0, .ref j0, .ref j1, .ref j2, .ref j3, .int 0, .int (-1), .int (-1), .int (-1)])), (t0, .inr (8, [.int 0, .ref t1, .ref t2, .ref t8, .ref t11, .int 1, .int 0, .int 0, .int 0])), (t8, .inr (0, [.ref t9, .ref t10])), (t9, .inl (k 0, 36, .inl (fun _ => 0))), (t2, .inr (1, [.int 0, .ref t3, .ref t4, .ref t5, .ref t6, .ref t7]))] := hD
  have hP := hP.sub (ws' := [(rm0, .inr (10, [.ref e0, .ref d0, .ref v0, .ref t0, .ref n0, .ref s0, .ref z0, .ref g0, .ref h0, .ref o0, .ref j0, .ref j1, .ref j2, .ref j3, .int 0, .int (-1), .int (-1), .int (-1)])), (t0, .inr (8, [.int 0, .ref t1, .ref t2, .ref t8, .ref t11, .int 1, .int 0, .int 0, .int 0])), (t2, .inr (1, [.int 0, .ref t3, .ref t4, .ref t5, .ref t6, .ref t7])), (t8, .inr (0, [.ref t9, .ref t10])), (t9, .inl (k 0, 36, .inl (fun _ => 0)))]) [0, 1, 4, 2, 3] rfl
  have hD := hD.sub (ws' := [(rm0, .inr (10, [.ref e0, .ref d0, .ref v0, .ref t0, .ref n0, .ref s0, .ref z0, .ref g0, .ref h0, .ref o0, .ref j0, .ref j1, .ref j2, .ref j3, .int 0, .int (-1), .int (-1), .int (-1)])), (t0, .inr (8, [.int 0, .ref t1, .ref t2, .ref t8, .ref t11, .int 1, .int 0, .int 0, .int 0])), (t2, .inr (1, [.int 0, .ref t3, .ref t4, .ref t5, .ref t6, .ref t7])), (t8, .inr (0, [.ref t9, .ref t10])), (t9, .inl (k 0, 36, .inl (fun _ => 0)))]) [0, 1, 4, 2, 3] (by decide) rfl
  exact g_iret hx hb hr rfl hlocks hK (fun _ => 0) hP hD hS rfl dX12_now_109 ⟨Nat.le_of_ble_eq_true rfl, Nat.le_of_ble_eq_true rfl⟩
set_option maxHeartbeats 4000000 in
set_option maxRecDepth 100000 in
theorem cM_now6 (l : Launch) (D : va_G) (k : Nat → ClassId) (rm0 : Nat) (e0 : Nat) (d0 : Nat) (v0 : Nat) (t0 : Nat) (n0 : Nat) (s0 : Nat) (z0 : Nat) (g0 : Nat) (h0 : Nat) (o0 : Nat) (j0 : Nat) (j1 : Nat) (j2 : Nat) (j3 : Nat) (t1 : Nat) (t2 : Nat) (t3 : Nat) (t4 : Nat) (t5 : Nat) (t6 : Nat) (t7 : Nat) (t8 : Nat) (t9 : Nat) (t10 : Nat) (t11 : Nat) : g_Ci l yX12_now wsX12_now ({ frames := 1, cells := 0, slots := 0, locals := 23 }) D k g_E0 [.ref rm0, .int 6] [(rm0, .inr (10, [.ref e0, .ref d0, .ref v0, .ref t0, .ref n0, .ref s0, .ref z0, .ref g0, .ref h0, .ref o0, .ref j0, .ref j1, .ref j2, .ref j3, .int 0, .int (-1), .int (-1), .int (-1)])), (t0, .inr (8, [.int 0, .ref t1, .ref t2, .ref t8, .ref t11, .int 1, .int 0, .int 0, .int 0])), (t2, .inr (1, [.int 0, .ref t3, .ref t4, .ref t5, .ref t6, .ref t7])), (t8, .inr (0, [.ref t9, .ref t10])), (t9, .inl (k 0, 36, .inl (fun _ => 0)))] 0 (fun u => [(rm0, .inr (10, [.ref e0, .ref d0, .ref v0, .ref t0, .ref n0, .ref s0, .ref z0, .ref g0, .ref h0, .ref o0, .ref j0, .ref j1, .ref j2, .ref j3, .int 0, .int (-1), .int (-1), .int (-1)])), (t0, .inr (8, [.int 0, .ref t1, .ref t2, .ref t8, .ref t11, .int 1, .int 0, .int 0, .int 0])), (t2, .inr (1, [.int 0, .ref t3, .ref t4, .ref t5, .ref t6, .ref t7])), (t8, .inr (0, [.ref t9, .ref t10])), (t9, .inl (k 0, 36, .inl (fun _ => 0)))]) 0 0 := by
  intro sz
  refine Met.ofW (cc := cX12_now) (maxL := 2) (ret := (some .int)) (by decide) rfl ?_
  intro p e s m args below meth c s₁ B hml hv
  obtain ⟨rfl, hsz, hP, hK, hD0, hE⟩ := hv
  have hx := B.exec
  have hb := B.bytes
  have hr := B.returns
  have hts := atoms_spec (ws := wsX12_now) B.pre
  have hown : s.vm.findClass RX12 = some m.cls := findClass_of_methodNamed B.named
  have hlocks := B.notSynchronized
  subst hsz
  have hD := hD0.self (sz := s.heap.size)
  generalize hAe : va_A [(rm0, .inr (10, [.ref e0, .ref d0, .ref v0, .ref t0, .ref n0, .ref s0, .ref z0, .ref g0, .ref h0, .ref o0, .ref j0, .ref j1, .ref j2, .ref j3, .int 0, .int (-1), .int (-1), .int (-1)])), (t0, .inr (8, [.int 0, .ref t1, .ref t2, .ref t8, .ref t11, .int 1, .int 0, .int 0, .int 0])), (t2, .inr (1, [.int 0, .ref t3, .ref t4, .ref t5, .ref t6, .ref t7])), (t8, .inr (0, [.ref t9, .ref t10])), (t9, .inl (k 0, 36, .inl (fun _ => 0)))] s.heap.size = A at hD ⊢
  have hA : ∀ q : Nat, s.heap.size ≤ q → A q := fun q h => by rw [← hAe]; exact Or.inr h
  have hS : va_S A s.heap s.heap [] := va_S.rf
  have hP : va_P D vwCl [(rm0, .inr (10, [.ref e0, .ref d0, .ref v0, .ref t0, .ref n0, .ref s0, .ref z0, .ref g0, .ref h0, .ref o0, .ref j0, .ref j1, .ref j2, .ref j3, .int 0, .int (-1), .int (-1), .int (-1)])), (t0, .inr (8, [.int 0, .ref t1, .ref t2, .ref t8, .ref t11, .int 1, .int 0, .int 0, .int 0])), (t2, .inr (1, [.int 0, .ref t3, .ref t4, .ref t5, .ref t6, .ref t7])), (t8, .inr (0, [.ref t9, .ref t10])), (t9, .inl (k 0, 36, .inl (fun _ => 0)))] s.heap := hP
  have hl := lv_entry ([.ref rm0, .int 6]) (n := 2) (Nat.le_of_ble_eq_true rfl)
  rw [lg_entry_eq]
  generalize (lg_sl ([.ref rm0, .int 6]) ++ List.replicate (2 - (lg_sl ([.ref rm0, .int 6])).length) Slot.unset).toArray = ls at hl ⊢
  have hl : lv_has ls 2 [(0, .ref rm0), (1, .int 6)] := hl
  refine lv_iload_n hx hb dX12_now_0 rfl (lv_at hl 1 rfl) ?_
  refine lv_tableIn (tgt := 110) hx hb dX12_now_1 (by decide) (by decide) rfl (by decide) ?_
  refine lv_aload_n hx hb dX12_now_110 rfl (lv_at hl 0 rfl) ?_
  refine va_get (D := D) (ci := 10) (v := .ref t0) (C := RX12) (T := TX12) (N := 18) hx hb hts inX12_now_X12 hown hK hP 0 rfl rfl 3 (by decide) (hts (.fieldLink RX12 37 "RungMoney" "town" "LRungMoney$Town;") (by decide +kernel)) (fun _ h9 => h9) rfl dX12_now_111 ?_
  refine va_get (D := D) (ci := 8) (v := .ref t2) (C := RX10) (T := TX10) (N := 9) hx hb hts inX12_now_X10 hown hK hP 1 rfl rfl 2 (by decide) (hts (.fieldLink RX12 142 "RungMoney$Town" "ladders" "LRungMoney$Ladders;") (by decide +kernel)) (fun _ h9 => h9) rfl dX12_now_114 ?_
  refine lv_iconst (v := 2) hx hb dX12_now_117 (by decide) ?_
  refine g_iV (As := [.int 2]) (rest := []) (wr := [(rm0, .inr (10, [.ref e0, .ref d0, .ref v0, .ref t0, .ref n0, .ref s0, .ref z0, .ref g0, .ref h0, .ref o0, .ref j0, .ref j1, .ref j2, .ref j3, .int 0, .int (-1), .int (-1), .int (-1)])), (t0, .inr (8, [.int 0, .ref t1, .ref t2, .ref t8, .ref t11, .int 1, .int 0, .int 0, .int 0])), (t8, .inr (0, [.ref t9, .ref t10])), (t9, .inl (k 0, 36, .inl (fun _ => 0)))]) ⟨hx, hb, hml, hown, hts⟩ (cL_sum l D k t2 t3 t4 t5 t6 t7 2) (cwV 1 hts gX12_now_X3_sum rfl rfl rfl (by decide +kernel) ⟨Nat.le_of_ble_eq_true rfl, Nat.le_of_ble_eq_true rfl⟩) g_E0_ok (fun _ _ _ => trivial) hK hP hD hS hA 2 1 rfl rfl rfl [2] [0, 1, 3, 4] rfl rfl (by decide) rfl hl.1 rfl (Nat.le_of_ble_eq_true rfl) dX12_now_118 ⟨Nat.le_of_ble_eq_true rfl, Nat.le_of_ble_eq_true rfl⟩ (fun u1 H locs hP hD hS => ?_)
  have hP : va_P D vwCl [(rm0, .inr (10, [.ref e0, .ref d0, .ref v0, .ref t0, .ref n0, .ref s0, .ref z0, .ref g0, .ref h0, .ref o0, .ref j0, .ref j1, .ref j2, .ref j3, .int 0, .int (-1), .int (-1), .int (-1)])), (t0, .inr (8, [.int 0, .ref t1, .ref t2, .ref t8, .ref t11, .int 1, .int 0, .int 0, .int 0])), (t8, .inr (0, [.ref t9, .ref t10])), (t9, .inl (k 0, 36, .inl (fun _ => 0))), (t2, .inr (1, [.int 0, .ref t3, .ref t4, .ref t5, .ref t6, .ref t7]))] H := hP
  have hD : va_D A [(rm0, .inr (10, [.ref e0, .ref d0, .ref v0, .ref t0, .ref n0, .ref s0, .ref z0, .ref g0, .ref h0, .ref o0, .ref j0, .ref j1, .ref j2, .ref j3, .int 0, .int (-1), .int (-1), .int (-1)])), (t0, .inr (8, [.int 0, .ref t1, .ref t2, .ref t8, .ref t11, .int 1, .int 0, .int 0, .int 0])), (t8, .inr (0, [.ref t9, .ref t10])), (t9, .inl (k 0, 36, .inl (fun _ => 0))), (t2, .inr (1, [.int 0, .ref t3, .ref t4, .ref t5, .ref t6, .ref t7]))] := hD
  refine lv_aload_n hx hb dX12_now_121 rfl (lv_at hl 0 rfl) ?_
  refine va_get (D := D) (ci := 10) (v := .ref t0) (C := RX12) (T := TX12) (N := 18) hx hb hts inX12_now_X12 hown hK hP 0 rfl rfl 3 (by decide) (hts (.fieldLink RX12 37 "RungMoney" "town" "LRungMoney$Town;") (by decide +kernel)) (fun _ h9 => h9) rfl dX12_now_122 ?_
  refine va_get (D := D) (ci := 8) (v := .ref t2) (C := RX10) (T := TX10) (N := 9) hx hb hts inX12_now_X10 hown hK hP 1 rfl rfl 2 (by decide) (hts (.fieldLink RX12 142 "RungMoney$Town" "ladders" "LRungMoney$Ladders;") (by decide +kernel)) (fun _ h9 => h9) rfl dX12_now_125 ?_
  refine lv_iconst (v := 3) hx hb dX12_now_128 (by decide) ?_
  refine g_iV (As := [.int 3]) (rest := [.int 0]) (wr := [(rm0, .inr (10, [.ref e0, .ref d0, .ref v0, .ref t0, .ref n0, .ref s0, .ref z0, .ref g0, .ref h0, .ref o0, .ref j0, .ref j1, .ref j2, .ref j3, .int 0, .int (-1), .int (-1), .int (-1)])), (t0, .inr (8, [.int 0, .ref t1, .ref t2, .ref t8, .ref t11, .int 1, .int 0, .int 0, .int 0])), (t8, .inr (0, [.ref t9, .ref t10])), (t9, .inl (k 0, 36, .inl (fun _ => 0)))]) ⟨hx, hb, hml, hown, hts⟩ (cL_sum l D k t2 t3 t4 t5 t6 t7 3) (cwV 1 hts gX12_now_X3_sum rfl rfl rfl (by decide +kernel) ⟨Nat.le_of_ble_eq_true rfl, Nat.le_of_ble_eq_true rfl⟩) g_E0_ok (fun _ _ _ => trivial) hK hP hD hS hA 4 1 rfl rfl rfl [4] [0, 1, 2, 3] rfl rfl (by decide) rfl hl.1 rfl (Nat.le_of_ble_eq_true rfl) dX12_now_129 ⟨Nat.le_of_ble_eq_true rfl, Nat.le_of_ble_eq_true rfl⟩ (fun u2 H locs hP hD hS => ?_)
  have hP : va_P D vwCl [(rm0, .inr (10, [.ref e0, .ref d0, .ref v0, .ref t0, .ref n0, .ref s0, .ref z0, .ref g0, .ref h0, .ref o0, .ref j0, .ref j1, .ref j2, .ref j3, .int 0, .int (-1), .int (-1), .int (-1)])), (t0, .inr (8, [.int 0, .ref t1, .ref t2, .ref t8, .ref t11, .int 1, .int 0, .int 0, .int 0])), (t8, .inr (0, [.ref t9, .ref t10])), (t9, .inl (k 0, 36, .inl (fun _ => 0))), (t2, .inr (1, [.int 0, .ref t3, .ref t4, .ref t5, .ref t6, .ref t7]))] H := hP
  have hD : va_D A [(rm0, .inr (10, [.ref e0, .ref d0, .ref v0, .ref t0, .ref n0, .ref s0, .ref z0, .ref g0, .ref h0, .ref o0, .ref j0, .ref j1, .ref j2, .ref j3, .int 0, .int (-1), .int (-1), .int (-1)])), (t0, .inr (8, [.int 0, .ref t1, .ref t2, .ref t8, .ref t11, .int 1, .int 0, .int 0, .int 0])), (t8, .inr (0, [.ref t9, .ref t10])), (t9, .inl (k 0, 36, .inl (fun _ => 0))), (t2, .inr (1, [.int 0, .ref t3, .ref t4, .ref t5, .ref t6, .ref t7]))] := hD
  refine lv_isub hx hb dX12_now_132 ?_
  refine lv_topi (fun x3 ex3 => ?_)
  obtain rfl : x3 = 0 := ex3.trans (by decide)
  have hP := hP.sub (ws' := [(rm0, .inr (10, [.ref e0, .ref d0, .ref v0, .ref t0, .ref n0, .ref s0, .ref z0, .ref g0, .ref h0, .ref o0, .ref j0, .ref j1, .ref j2, .ref j3, .int 0, .int (-1), .int (-1), .int (-1)])), (t0, .inr (8, [.int 0, .ref t1, .ref t2, .ref t8, .ref t11, .int 1, .int 0, .int 0, .int 0])), (t2, .inr (1, [.int 0, .ref t3, .ref t4, .ref t5, .ref t6, .ref t7])), (t8, .inr (0, [.ref t9, .ref t10])), (t9, .inl (k 0, 36, .inl (fun _ => 0)))]) [0, 1, 4, 2, 3] rfl
  have hD := hD.sub (ws' := [(rm0, .inr (10, [.ref e0, .ref d0, .ref v0, .ref t0, .ref n0, .ref s0, .ref z0, .ref g0, .ref h0, .ref o0, .ref j0, .ref j1, .ref j2, .ref j3, .int 0, .int (-1), .int (-1), .int (-1)])), (t0, .inr (8, [.int 0, .ref t1, .ref t2, .ref t8, .ref t11, .int 1, .int 0, .int 0, .int 0])), (t2, .inr (1, [.int 0, .ref t3, .ref t4, .ref t5, .ref t6, .ref t7])), (t8, .inr (0, [.ref t9, .ref t10])), (t9, .inl (k 0, 36, .inl (fun _ => 0)))]) [0, 1, 4, 2, 3] (by decide) rfl
  exact g_iret hx hb hr rfl hlocks hK (fun _ => 0) hP hD hS rfl dX12_now_133 ⟨Nat.le_of_ble_eq_true rfl, Nat.le_of_ble_eq_true rfl⟩
set_option maxHeartbeats 4000000 in
set_option maxRecDepth 100000 in
theorem cM_now7 (l : Launch) (D : va_G) (k : Nat → ClassId) (rm0 : Nat) (e0 : Nat) (d0 : Nat) (v0 : Nat) (t0 : Nat) (n0 : Nat) (s0 : Nat) (z0 : Nat) (g0 : Nat) (h0 : Nat) (o0 : Nat) (j0 : Nat) (j1 : Nat) (j2 : Nat) (j3 : Nat) (t1 : Nat) (t2 : Nat) (t3 : Nat) (t4 : Nat) (t5 : Nat) (t6 : Nat) (t7 : Nat) (t8 : Nat) (t9 : Nat) (t10 : Nat) (t11 : Nat) : g_Ci l yX12_now wsX12_now ({ frames := 0, cells := 0, slots := 0, locals := 0 }) D k g_E0 [.ref rm0, .int 7] [(rm0, .inr (10, [.ref e0, .ref d0, .ref v0, .ref t0, .ref n0, .ref s0, .ref z0, .ref g0, .ref h0, .ref o0, .ref j0, .ref j1, .ref j2, .ref j3, .int 0, .int (-1), .int (-1), .int (-1)])), (t0, .inr (8, [.int 0, .ref t1, .ref t2, .ref t8, .ref t11, .int 1, .int 0, .int 0, .int 0])), (t2, .inr (1, [.int 0, .ref t3, .ref t4, .ref t5, .ref t6, .ref t7])), (t8, .inr (0, [.ref t9, .ref t10])), (t9, .inl (k 0, 36, .inl (fun _ => 0)))] 0 (fun u => [(rm0, .inr (10, [.ref e0, .ref d0, .ref v0, .ref t0, .ref n0, .ref s0, .ref z0, .ref g0, .ref h0, .ref o0, .ref j0, .ref j1, .ref j2, .ref j3, .int 0, .int (-1), .int (-1), .int (-1)])), (t0, .inr (8, [.int 0, .ref t1, .ref t2, .ref t8, .ref t11, .int 1, .int 0, .int 0, .int 0])), (t2, .inr (1, [.int 0, .ref t3, .ref t4, .ref t5, .ref t6, .ref t7])), (t8, .inr (0, [.ref t9, .ref t10])), (t9, .inl (k 0, 36, .inl (fun _ => 0)))]) 0 0 := by
  intro sz
  refine Met.ofW (cc := cX12_now) (maxL := 2) (ret := (some .int)) (by decide) rfl ?_
  intro p e s m args below meth c s₁ B hml hv
  obtain ⟨rfl, hsz, hP, hK, hD0, hE⟩ := hv
  have hx := B.exec
  have hb := B.bytes
  have hr := B.returns
  have hts := atoms_spec (ws := wsX12_now) B.pre
  have hown : s.vm.findClass RX12 = some m.cls := findClass_of_methodNamed B.named
  have hlocks := B.notSynchronized
  subst hsz
  have hD := hD0.self (sz := s.heap.size)
  generalize hAe : va_A [(rm0, .inr (10, [.ref e0, .ref d0, .ref v0, .ref t0, .ref n0, .ref s0, .ref z0, .ref g0, .ref h0, .ref o0, .ref j0, .ref j1, .ref j2, .ref j3, .int 0, .int (-1), .int (-1), .int (-1)])), (t0, .inr (8, [.int 0, .ref t1, .ref t2, .ref t8, .ref t11, .int 1, .int 0, .int 0, .int 0])), (t2, .inr (1, [.int 0, .ref t3, .ref t4, .ref t5, .ref t6, .ref t7])), (t8, .inr (0, [.ref t9, .ref t10])), (t9, .inl (k 0, 36, .inl (fun _ => 0)))] s.heap.size = A at hD ⊢
  have hA : ∀ q : Nat, s.heap.size ≤ q → A q := fun q h => by rw [← hAe]; exact Or.inr h
  have hS : va_S A s.heap s.heap [] := va_S.rf
  have hP : va_P D vwCl [(rm0, .inr (10, [.ref e0, .ref d0, .ref v0, .ref t0, .ref n0, .ref s0, .ref z0, .ref g0, .ref h0, .ref o0, .ref j0, .ref j1, .ref j2, .ref j3, .int 0, .int (-1), .int (-1), .int (-1)])), (t0, .inr (8, [.int 0, .ref t1, .ref t2, .ref t8, .ref t11, .int 1, .int 0, .int 0, .int 0])), (t2, .inr (1, [.int 0, .ref t3, .ref t4, .ref t5, .ref t6, .ref t7])), (t8, .inr (0, [.ref t9, .ref t10])), (t9, .inl (k 0, 36, .inl (fun _ => 0)))] s.heap := hP
  have hl := lv_entry ([.ref rm0, .int 7]) (n := 2) (Nat.le_of_ble_eq_true rfl)
  rw [lg_entry_eq]
  generalize (lg_sl ([.ref rm0, .int 7]) ++ List.replicate (2 - (lg_sl ([.ref rm0, .int 7])).length) Slot.unset).toArray = ls at hl ⊢
  have hl : lv_has ls 2 [(0, .ref rm0), (1, .int 7)] := hl
  refine lv_iload_n hx hb dX12_now_0 rfl (lv_at hl 1 rfl) ?_
  refine lv_tableIn (tgt := 134) hx hb dX12_now_1 (by decide) (by decide) rfl (by decide) ?_
  refine lv_aload_n hx hb dX12_now_134 rfl (lv_at hl 0 rfl) ?_
  refine va_get (D := D) (ci := 10) (v := .ref t0) (C := RX12) (T := TX12) (N := 18) hx hb hts inX12_now_X12 hown hK hP 0 rfl rfl 3 (by decide) (hts (.fieldLink RX12 37 "RungMoney" "town" "LRungMoney$Town;") (by decide +kernel)) (fun _ h9 => h9) rfl dX12_now_135 ?_
  refine va_get (D := D) (ci := 8) (v := .int 0) (C := RX10) (T := TX10) (N := 9) hx hb hts inX12_now_X10 hown hK hP 1 rfl rfl 8 (by decide) (hts (.fieldLink RX12 209 "RungMoney$Town" "cuts" "I") (by decide +kernel)) (fun _ h9 => h9) rfl dX12_now_138 ?_
  have hP := hP.sub (ws' := [(rm0, .inr (10, [.ref e0, .ref d0, .ref v0, .ref t0, .ref n0, .ref s0, .ref z0, .ref g0, .ref h0, .ref o0, .ref j0, .ref j1, .ref j2, .ref j3, .int 0, .int (-1), .int (-1), .int (-1)])), (t0, .inr (8, [.int 0, .ref t1, .ref t2, .ref t8, .ref t11, .int 1, .int 0, .int 0, .int 0])), (t2, .inr (1, [.int 0, .ref t3, .ref t4, .ref t5, .ref t6, .ref t7])), (t8, .inr (0, [.ref t9, .ref t10])), (t9, .inl (k 0, 36, .inl (fun _ => 0)))]) [0, 1, 2, 3, 4] rfl
  have hD := hD.sub (ws' := [(rm0, .inr (10, [.ref e0, .ref d0, .ref v0, .ref t0, .ref n0, .ref s0, .ref z0, .ref g0, .ref h0, .ref o0, .ref j0, .ref j1, .ref j2, .ref j3, .int 0, .int (-1), .int (-1), .int (-1)])), (t0, .inr (8, [.int 0, .ref t1, .ref t2, .ref t8, .ref t11, .int 1, .int 0, .int 0, .int 0])), (t2, .inr (1, [.int 0, .ref t3, .ref t4, .ref t5, .ref t6, .ref t7])), (t8, .inr (0, [.ref t9, .ref t10])), (t9, .inl (k 0, 36, .inl (fun _ => 0)))]) [0, 1, 2, 3, 4] (by decide) rfl
  exact g_iret hx hb hr rfl hlocks hK (fun _ => 0) hP hD hS rfl dX12_now_141 ⟨Nat.le_of_ble_eq_true rfl, Nat.le_of_ble_eq_true rfl⟩
set_option maxHeartbeats 4000000 in
set_option maxRecDepth 100000 in
theorem cM_nowL (l : Launch) (D : va_G) (k : Nat → ClassId) (rm0 : Nat) (e0 : Nat) (d0 : Nat) (v0 : Nat) (t0 : Nat) (n0 : Nat) (s0 : Nat) (z0 : Nat) (g0 : Nat) (h0 : Nat) (o0 : Nat) (j0 : Nat) (j1 : Nat) (j2 : Nat) (j3 : Nat) (t1 : Nat) (t2 : Nat) (t3 : Nat) (t4 : Nat) (t5 : Nat) (t6 : Nat) (t7 : Nat) (t8 : Nat) (t9 : Nat) (t10 : Nat) (t11 : Nat) (p0 : Int32) (hp : p0 < 0) : g_Ci l yX12_now wsX12_now ({ frames := 0, cells := 0, slots := 0, locals := 0 }) D k g_E0 [.ref rm0, .int p0] [(rm0, .inr (10, [.ref e0, .ref d0, .ref v0, .ref t0, .ref n0, .ref s0, .ref z0, .ref g0, .ref h0, .ref o0, .ref j0, .ref j1, .ref j2, .ref j3, .int 0, .int (-1), .int (-1), .int (-1)])), (t0, .inr (8, [.int 0, .ref t1, .ref t2, .ref t8, .ref t11, .int 1, .int 0, .int 0, .int 0])), (t2, .inr (1, [.int 0, .ref t3, .ref t4, .ref t5, .ref t6, .ref t7])), (t8, .inr (0, [.ref t9, .ref t10])), (t9, .inl (k 0, 36, .inl (fun _ => 0)))] (-1) (fun u => [(rm0, .inr (10, [.ref e0, .ref d0, .ref v0, .ref t0, .ref n0, .ref s0, .ref z0, .ref g0, .ref h0, .ref o0, .ref j0, .ref j1, .ref j2, .ref j3, .int 0, .int (-1), .int (-1), .int (-1)])), (t0, .inr (8, [.int 0, .ref t1, .ref t2, .ref t8, .ref t11, .int 1, .int 0, .int 0, .int 0])), (t2, .inr (1, [.int 0, .ref t3, .ref t4, .ref t5, .ref t6, .ref t7])), (t8, .inr (0, [.ref t9, .ref t10])), (t9, .inl (k 0, 36, .inl (fun _ => 0)))]) 0 0 := by
  intro sz
  refine Met.ofW (cc := cX12_now) (maxL := 2) (ret := (some .int)) (by decide) rfl ?_
  intro p e s m args below meth c s₁ B hml hv
  obtain ⟨rfl, hsz, hP, hK, hD0, hE⟩ := hv
  have hx := B.exec
  have hb := B.bytes
  have hr := B.returns
  have hts := atoms_spec (ws := wsX12_now) B.pre
  have hown : s.vm.findClass RX12 = some m.cls := findClass_of_methodNamed B.named
  have hlocks := B.notSynchronized
  subst hsz
  have hD := hD0.self (sz := s.heap.size)
  generalize hAe : va_A [(rm0, .inr (10, [.ref e0, .ref d0, .ref v0, .ref t0, .ref n0, .ref s0, .ref z0, .ref g0, .ref h0, .ref o0, .ref j0, .ref j1, .ref j2, .ref j3, .int 0, .int (-1), .int (-1), .int (-1)])), (t0, .inr (8, [.int 0, .ref t1, .ref t2, .ref t8, .ref t11, .int 1, .int 0, .int 0, .int 0])), (t2, .inr (1, [.int 0, .ref t3, .ref t4, .ref t5, .ref t6, .ref t7])), (t8, .inr (0, [.ref t9, .ref t10])), (t9, .inl (k 0, 36, .inl (fun _ => 0)))] s.heap.size = A at hD ⊢
  have hA : ∀ q : Nat, s.heap.size ≤ q → A q := fun q h => by rw [← hAe]; exact Or.inr h
  have hS : va_S A s.heap s.heap [] := va_S.rf
  have hP : va_P D vwCl [(rm0, .inr (10, [.ref e0, .ref d0, .ref v0, .ref t0, .ref n0, .ref s0, .ref z0, .ref g0, .ref h0, .ref o0, .ref j0, .ref j1, .ref j2, .ref j3, .int 0, .int (-1), .int (-1), .int (-1)])), (t0, .inr (8, [.int 0, .ref t1, .ref t2, .ref t8, .ref t11, .int 1, .int 0, .int 0, .int 0])), (t2, .inr (1, [.int 0, .ref t3, .ref t4, .ref t5, .ref t6, .ref t7])), (t8, .inr (0, [.ref t9, .ref t10])), (t9, .inl (k 0, 36, .inl (fun _ => 0)))] s.heap := hP
  have hl := lv_entry ([.ref rm0, .int p0]) (n := 2) (Nat.le_of_ble_eq_true rfl)
  rw [lg_entry_eq]
  generalize (lg_sl ([.ref rm0, .int p0]) ++ List.replicate (2 - (lg_sl ([.ref rm0, .int p0])).length) Slot.unset).toArray = ls at hl ⊢
  have hl : lv_has ls 2 [(0, .ref rm0), (1, .int p0)] := hl
  refine lv_iload_n hx hb dX12_now_0 rfl (lv_at hl 1 rfl) ?_
  refine lv_tableOut (x := p0) (tgt := 142) hx hb dX12_now_1 (by simp only [fa_lt, fa_le, fa_eq, t_0] at hp; omega) (by decide) ?_
  refine lv_iconst (v := (-1)) hx hb dX12_now_142 (by decide) ?_
  have hP := hP.sub (ws' := [(rm0, .inr (10, [.ref e0, .ref d0, .ref v0, .ref t0, .ref n0, .ref s0, .ref z0, .ref g0, .ref h0, .ref o0, .ref j0, .ref j1, .ref j2, .ref j3, .int 0, .int (-1), .int (-1), .int (-1)])), (t0, .inr (8, [.int 0, .ref t1, .ref t2, .ref t8, .ref t11, .int 1, .int 0, .int 0, .int 0])), (t2, .inr (1, [.int 0, .ref t3, .ref t4, .ref t5, .ref t6, .ref t7])), (t8, .inr (0, [.ref t9, .ref t10])), (t9, .inl (k 0, 36, .inl (fun _ => 0)))]) [0, 1, 2, 3, 4] rfl
  have hD := hD.sub (ws' := [(rm0, .inr (10, [.ref e0, .ref d0, .ref v0, .ref t0, .ref n0, .ref s0, .ref z0, .ref g0, .ref h0, .ref o0, .ref j0, .ref j1, .ref j2, .ref j3, .int 0, .int (-1), .int (-1), .int (-1)])), (t0, .inr (8, [.int 0, .ref t1, .ref t2, .ref t8, .ref t11, .int 1, .int 0, .int 0, .int 0])), (t2, .inr (1, [.int 0, .ref t3, .ref t4, .ref t5, .ref t6, .ref t7])), (t8, .inr (0, [.ref t9, .ref t10])), (t9, .inl (k 0, 36, .inl (fun _ => 0)))]) [0, 1, 2, 3, 4] (by decide) rfl
  exact g_iret hx hb hr rfl hlocks hK (fun _ => 0) hP hD hS rfl dX12_now_143 ⟨Nat.le_of_ble_eq_true rfl, Nat.le_of_ble_eq_true rfl⟩
set_option maxHeartbeats 4000000 in
set_option maxRecDepth 100000 in
theorem cM_nowH (l : Launch) (D : va_G) (k : Nat → ClassId) (rm0 : Nat) (e0 : Nat) (d0 : Nat) (v0 : Nat) (t0 : Nat) (n0 : Nat) (s0 : Nat) (z0 : Nat) (g0 : Nat) (h0 : Nat) (o0 : Nat) (j0 : Nat) (j1 : Nat) (j2 : Nat) (j3 : Nat) (t1 : Nat) (t2 : Nat) (t3 : Nat) (t4 : Nat) (t5 : Nat) (t6 : Nat) (t7 : Nat) (t8 : Nat) (t9 : Nat) (t10 : Nat) (t11 : Nat) (p0 : Int32) (hp : 7 < p0) : g_Ci l yX12_now wsX12_now ({ frames := 0, cells := 0, slots := 0, locals := 0 }) D k g_E0 [.ref rm0, .int p0] [(rm0, .inr (10, [.ref e0, .ref d0, .ref v0, .ref t0, .ref n0, .ref s0, .ref z0, .ref g0, .ref h0, .ref o0, .ref j0, .ref j1, .ref j2, .ref j3, .int 0, .int (-1), .int (-1), .int (-1)])), (t0, .inr (8, [.int 0, .ref t1, .ref t2, .ref t8, .ref t11, .int 1, .int 0, .int 0, .int 0])), (t2, .inr (1, [.int 0, .ref t3, .ref t4, .ref t5, .ref t6, .ref t7])), (t8, .inr (0, [.ref t9, .ref t10])), (t9, .inl (k 0, 36, .inl (fun _ => 0)))] (-1) (fun u => [(rm0, .inr (10, [.ref e0, .ref d0, .ref v0, .ref t0, .ref n0, .ref s0, .ref z0, .ref g0, .ref h0, .ref o0, .ref j0, .ref j1, .ref j2, .ref j3, .int 0, .int (-1), .int (-1), .int (-1)])), (t0, .inr (8, [.int 0, .ref t1, .ref t2, .ref t8, .ref t11, .int 1, .int 0, .int 0, .int 0])), (t2, .inr (1, [.int 0, .ref t3, .ref t4, .ref t5, .ref t6, .ref t7])), (t8, .inr (0, [.ref t9, .ref t10])), (t9, .inl (k 0, 36, .inl (fun _ => 0)))]) 0 0 := by
  intro sz
  refine Met.ofW (cc := cX12_now) (maxL := 2) (ret := (some .int)) (by decide) rfl ?_
  intro p e s m args below meth c s₁ B hml hv
  obtain ⟨rfl, hsz, hP, hK, hD0, hE⟩ := hv
  have hx := B.exec
  have hb := B.bytes
  have hr := B.returns
  have hts := atoms_spec (ws := wsX12_now) B.pre
  have hown : s.vm.findClass RX12 = some m.cls := findClass_of_methodNamed B.named
  have hlocks := B.notSynchronized
  subst hsz
  have hD := hD0.self (sz := s.heap.size)
  generalize hAe : va_A [(rm0, .inr (10, [.ref e0, .ref d0, .ref v0, .ref t0, .ref n0, .ref s0, .ref z0, .ref g0, .ref h0, .ref o0, .ref j0, .ref j1, .ref j2, .ref j3, .int 0, .int (-1), .int (-1), .int (-1)])), (t0, .inr (8, [.int 0, .ref t1, .ref t2, .ref t8, .ref t11, .int 1, .int 0, .int 0, .int 0])), (t2, .inr (1, [.int 0, .ref t3, .ref t4, .ref t5, .ref t6, .ref t7])), (t8, .inr (0, [.ref t9, .ref t10])), (t9, .inl (k 0, 36, .inl (fun _ => 0)))] s.heap.size = A at hD ⊢
  have hA : ∀ q : Nat, s.heap.size ≤ q → A q := fun q h => by rw [← hAe]; exact Or.inr h
  have hS : va_S A s.heap s.heap [] := va_S.rf
  have hP : va_P D vwCl [(rm0, .inr (10, [.ref e0, .ref d0, .ref v0, .ref t0, .ref n0, .ref s0, .ref z0, .ref g0, .ref h0, .ref o0, .ref j0, .ref j1, .ref j2, .ref j3, .int 0, .int (-1), .int (-1), .int (-1)])), (t0, .inr (8, [.int 0, .ref t1, .ref t2, .ref t8, .ref t11, .int 1, .int 0, .int 0, .int 0])), (t2, .inr (1, [.int 0, .ref t3, .ref t4, .ref t5, .ref t6, .ref t7])), (t8, .inr (0, [.ref t9, .ref t10])), (t9, .inl (k 0, 36, .inl (fun _ => 0)))] s.heap := hP
  have hl := lv_entry ([.ref rm0, .int p0]) (n := 2) (Nat.le_of_ble_eq_true rfl)
  rw [lg_entry_eq]
  generalize (lg_sl ([.ref rm0, .int p0]) ++ List.replicate (2 - (lg_sl ([.ref rm0, .int p0])).length) Slot.unset).toArray = ls at hl ⊢
  have hl : lv_has ls 2 [(0, .ref rm0), (1, .int p0)] := hl
  refine lv_iload_n hx hb dX12_now_0 rfl (lv_at hl 1 rfl) ?_
  refine lv_tableOut (x := p0) (tgt := 142) hx hb dX12_now_1 (by simp only [fa_lt, fa_le, fa_eq, t_7] at hp; omega) (by decide) ?_
  refine lv_iconst (v := (-1)) hx hb dX12_now_142 (by decide) ?_
  have hP := hP.sub (ws' := [(rm0, .inr (10, [.ref e0, .ref d0, .ref v0, .ref t0, .ref n0, .ref s0, .ref z0, .ref g0, .ref h0, .ref o0, .ref j0, .ref j1, .ref j2, .ref j3, .int 0, .int (-1), .int (-1), .int (-1)])), (t0, .inr (8, [.int 0, .ref t1, .ref t2, .ref t8, .ref t11, .int 1, .int 0, .int 0, .int 0])), (t2, .inr (1, [.int 0, .ref t3, .ref t4, .ref t5, .ref t6, .ref t7])), (t8, .inr (0, [.ref t9, .ref t10])), (t9, .inl (k 0, 36, .inl (fun _ => 0)))]) [0, 1, 2, 3, 4] rfl
  have hD := hD.sub (ws' := [(rm0, .inr (10, [.ref e0, .ref d0, .ref v0, .ref t0, .ref n0, .ref s0, .ref z0, .ref g0, .ref h0, .ref o0, .ref j0, .ref j1, .ref j2, .ref j3, .int 0, .int (-1), .int (-1), .int (-1)])), (t0, .inr (8, [.int 0, .ref t1, .ref t2, .ref t8, .ref t11, .int 1, .int 0, .int 0, .int 0])), (t2, .inr (1, [.int 0, .ref t3, .ref t4, .ref t5, .ref t6, .ref t7])), (t8, .inr (0, [.ref t9, .ref t10])), (t9, .inl (k 0, 36, .inl (fun _ => 0)))]) [0, 1, 2, 3, 4] (by decide) rfl
  exact g_iret hx hb hr rfl hlocks hK (fun _ => 0) hP hD hS rfl dX12_now_143 ⟨Nat.le_of_ble_eq_true rfl, Nat.le_of_ble_eq_true rfl⟩
set_option maxHeartbeats 4000000 in
set_option maxRecDepth 100000 in
theorem cM_count0 (l : Launch) (D : va_G) (k : Nat → ClassId) (rm0 : Nat) (e0 : Nat) (d0 : Nat) (v0 : Nat) (t0 : Nat) (n0 : Nat) (s0 : Nat) (z0 : Nat) (g0 : Nat) (h0 : Nat) (o0 : Nat) (j0 : Nat) (j1 : Nat) (j2 : Nat) (j3 : Nat) (e1 : Nat) (t1 : Nat) (t2 : Nat) (t3 : Nat) (t4 : Nat) (t5 : Nat) (t6 : Nat) (t7 : Nat) (t8 : Nat) (t11 : Nat) : g_Ci l yX12_count wsX12_count ({ frames := 0, cells := 0, slots := 0, locals := 0 }) D k g_E0 [.ref rm0, .int 0] [(rm0, .inr (10, [.ref e0, .ref d0, .ref v0, .ref t0, .ref n0, .ref s0, .ref z0, .ref g0, .ref h0, .ref o0, .ref j0, .ref j1, .ref j2, .ref j3, .int 0, .int (-1), .int (-1), .int (-1)])), (t0, .inr (8, [.int 0, .ref t1, .ref t2, .ref t8, .ref t11, .int 1, .int 0, .int 0, .int 0])), (t2, .inr (1, [.int 0, .ref t3, .ref t4, .ref t5, .ref t6, .ref t7])), (e0, .inr (7, [.ref e1, .int 0]))] 0 (fun u => [(rm0, .inr (10, [.ref e0, .ref d0, .ref v0, .ref t0, .ref n0, .ref s0, .ref z0, .ref g0, .ref h0, .ref o0, .ref j0, .ref j1, .ref j2, .ref j3, .int 0, .int (-1), .int (-1), .int (-1)])), (t0, .inr (8, [.int 0, .ref t1, .ref t2, .ref t8, .ref t11, .int 1, .int 0, .int 0, .int 0])), (t2, .inr (1, [.int 0, .ref t3, .ref t4, .ref t5, .ref t6, .ref t7])), (e0, .inr (7, [.ref e1, .int 0]))]) 0 0 := by
  intro sz
  refine Met.ofW (cc := cX12_count) (maxL := 2) (ret := (some .int)) (by decide) rfl ?_
  intro p e s m args below meth c s₁ B hml hv
  obtain ⟨rfl, hsz, hP, hK, hD0, hE⟩ := hv
  have hx := B.exec
  have hb := B.bytes
  have hr := B.returns
  have hts := atoms_spec (ws := wsX12_count) B.pre
  have hown : s.vm.findClass RX12 = some m.cls := findClass_of_methodNamed B.named
  have hlocks := B.notSynchronized
  subst hsz
  have hD := hD0.self (sz := s.heap.size)
  generalize hAe : va_A [(rm0, .inr (10, [.ref e0, .ref d0, .ref v0, .ref t0, .ref n0, .ref s0, .ref z0, .ref g0, .ref h0, .ref o0, .ref j0, .ref j1, .ref j2, .ref j3, .int 0, .int (-1), .int (-1), .int (-1)])), (t0, .inr (8, [.int 0, .ref t1, .ref t2, .ref t8, .ref t11, .int 1, .int 0, .int 0, .int 0])), (t2, .inr (1, [.int 0, .ref t3, .ref t4, .ref t5, .ref t6, .ref t7])), (e0, .inr (7, [.ref e1, .int 0]))] s.heap.size = A at hD ⊢
  have hA : ∀ q : Nat, s.heap.size ≤ q → A q := fun q h => by rw [← hAe]; exact Or.inr h
  have hS : va_S A s.heap s.heap [] := va_S.rf
  have hP : va_P D vwCl [(rm0, .inr (10, [.ref e0, .ref d0, .ref v0, .ref t0, .ref n0, .ref s0, .ref z0, .ref g0, .ref h0, .ref o0, .ref j0, .ref j1, .ref j2, .ref j3, .int 0, .int (-1), .int (-1), .int (-1)])), (t0, .inr (8, [.int 0, .ref t1, .ref t2, .ref t8, .ref t11, .int 1, .int 0, .int 0, .int 0])), (t2, .inr (1, [.int 0, .ref t3, .ref t4, .ref t5, .ref t6, .ref t7])), (e0, .inr (7, [.ref e1, .int 0]))] s.heap := hP
  have hl := lv_entry ([.ref rm0, .int 0]) (n := 2) (Nat.le_of_ble_eq_true rfl)
  rw [lg_entry_eq]
  generalize (lg_sl ([.ref rm0, .int 0]) ++ List.replicate (2 - (lg_sl ([.ref rm0, .int 0])).length) Slot.unset).toArray = ls at hl ⊢
  have hl : lv_has ls 2 [(0, .ref rm0), (1, .int 0)] := hl
  refine lv_iload_n hx hb dX12_count_0 rfl (lv_at hl 1 rfl) ?_
  refine lv_tableIn (tgt := 32) hx hb dX12_count_1 (by decide) (by decide) rfl (by decide) ?_
  refine lv_aload_n hx hb dX12_count_32 rfl (lv_at hl 0 rfl) ?_
  refine va_get (D := D) (ci := 10) (v := .ref t0) (C := RX12) (T := TX12) (N := 18) hx hb hts inX12_count_X12 hown hK hP 0 rfl rfl 3 (by decide) (hts (.fieldLink RX12 37 "RungMoney" "town" "LRungMoney$Town;") (by decide +kernel)) (fun _ h9 => h9) rfl dX12_count_33 ?_
  refine va_get (D := D) (ci := 8) (v := .int 0) (C := RX10) (T := TX10) (N := 9) hx hb hts inX12_count_X10 hown hK hP 1 rfl rfl 0 (by decide) (hts (.fieldLink RX12 212 "RungMoney$Town" "men" "I") (by decide +kernel)) (fun _ h9 => h9) rfl dX12_count_36 ?_
  have hP := hP.sub (ws' := [(rm0, .inr (10, [.ref e0, .ref d0, .ref v0, .ref t0, .ref n0, .ref s0, .ref z0, .ref g0, .ref h0, .ref o0, .ref j0, .ref j1, .ref j2, .ref j3, .int 0, .int (-1), .int (-1), .int (-1)])), (t0, .inr (8, [.int 0, .ref t1, .ref t2, .ref t8, .ref t11, .int 1, .int 0, .int 0, .int 0])), (t2, .inr (1, [.int 0, .ref t3, .ref t4, .ref t5, .ref t6, .ref t7])), (e0, .inr (7, [.ref e1, .int 0]))]) [0, 1, 2, 3] rfl
  have hD := hD.sub (ws' := [(rm0, .inr (10, [.ref e0, .ref d0, .ref v0, .ref t0, .ref n0, .ref s0, .ref z0, .ref g0, .ref h0, .ref o0, .ref j0, .ref j1, .ref j2, .ref j3, .int 0, .int (-1), .int (-1), .int (-1)])), (t0, .inr (8, [.int 0, .ref t1, .ref t2, .ref t8, .ref t11, .int 1, .int 0, .int 0, .int 0])), (t2, .inr (1, [.int 0, .ref t3, .ref t4, .ref t5, .ref t6, .ref t7])), (e0, .inr (7, [.ref e1, .int 0]))]) [0, 1, 2, 3] (by decide) rfl
  exact g_iret hx hb hr rfl hlocks hK (fun _ => 0) hP hD hS rfl dX12_count_39 ⟨Nat.le_of_ble_eq_true rfl, Nat.le_of_ble_eq_true rfl⟩
set_option maxHeartbeats 4000000 in
set_option maxRecDepth 100000 in
theorem cM_count1 (l : Launch) (D : va_G) (k : Nat → ClassId) (rm0 : Nat) (e0 : Nat) (d0 : Nat) (v0 : Nat) (t0 : Nat) (n0 : Nat) (s0 : Nat) (z0 : Nat) (g0 : Nat) (h0 : Nat) (o0 : Nat) (j0 : Nat) (j1 : Nat) (j2 : Nat) (j3 : Nat) (e1 : Nat) (t1 : Nat) (t2 : Nat) (t3 : Nat) (t4 : Nat) (t5 : Nat) (t6 : Nat) (t7 : Nat) (t8 : Nat) (t11 : Nat) : g_Ci l yX12_count wsX12_count ({ frames := 0, cells := 0, slots := 0, locals := 0 }) D k g_E0 [.ref rm0, .int 1] [(rm0, .inr (10, [.ref e0, .ref d0, .ref v0, .ref t0, .ref n0, .ref s0, .ref z0, .ref g0, .ref h0, .ref o0, .ref j0, .ref j1, .ref j2, .ref j3, .int 0, .int (-1), .int (-1), .int (-1)])), (t0, .inr (8, [.int 0, .ref t1, .ref t2, .ref t8, .ref t11, .int 1, .int 0, .int 0, .int 0])), (t2, .inr (1, [.int 0, .ref t3, .ref t4, .ref t5, .ref t6, .ref t7])), (e0, .inr (7, [.ref e1, .int 0]))] 0 (fun u => [(rm0, .inr (10, [.ref e0, .ref d0, .ref v0, .ref t0, .ref n0, .ref s0, .ref z0, .ref g0, .ref h0, .ref o0, .ref j0, .ref j1, .ref j2, .ref j3, .int 0, .int (-1), .int (-1), .int (-1)])), (t0, .inr (8, [.int 0, .ref t1, .ref t2, .ref t8, .ref t11, .int 1, .int 0, .int 0, .int 0])), (t2, .inr (1, [.int 0, .ref t3, .ref t4, .ref t5, .ref t6, .ref t7])), (e0, .inr (7, [.ref e1, .int 0]))]) 0 0 := by
  intro sz
  refine Met.ofW (cc := cX12_count) (maxL := 2) (ret := (some .int)) (by decide) rfl ?_
  intro p e s m args below meth c s₁ B hml hv
  obtain ⟨rfl, hsz, hP, hK, hD0, hE⟩ := hv
  have hx := B.exec
  have hb := B.bytes
  have hr := B.returns
  have hts := atoms_spec (ws := wsX12_count) B.pre
  have hown : s.vm.findClass RX12 = some m.cls := findClass_of_methodNamed B.named
  have hlocks := B.notSynchronized
  subst hsz
  have hD := hD0.self (sz := s.heap.size)
  generalize hAe : va_A [(rm0, .inr (10, [.ref e0, .ref d0, .ref v0, .ref t0, .ref n0, .ref s0, .ref z0, .ref g0, .ref h0, .ref o0, .ref j0, .ref j1, .ref j2, .ref j3, .int 0, .int (-1), .int (-1), .int (-1)])), (t0, .inr (8, [.int 0, .ref t1, .ref t2, .ref t8, .ref t11, .int 1, .int 0, .int 0, .int 0])), (t2, .inr (1, [.int 0, .ref t3, .ref t4, .ref t5, .ref t6, .ref t7])), (e0, .inr (7, [.ref e1, .int 0]))] s.heap.size = A at hD ⊢
  have hA : ∀ q : Nat, s.heap.size ≤ q → A q := fun q h => by rw [← hAe]; exact Or.inr h
  have hS : va_S A s.heap s.heap [] := va_S.rf
  have hP : va_P D vwCl [(rm0, .inr (10, [.ref e0, .ref d0, .ref v0, .ref t0, .ref n0, .ref s0, .ref z0, .ref g0, .ref h0, .ref o0, .ref j0, .ref j1, .ref j2, .ref j3, .int 0, .int (-1), .int (-1), .int (-1)])), (t0, .inr (8, [.int 0, .ref t1, .ref t2, .ref t8, .ref t11, .int 1, .int 0, .int 0, .int 0])), (t2, .inr (1, [.int 0, .ref t3, .ref t4, .ref t5, .ref t6, .ref t7])), (e0, .inr (7, [.ref e1, .int 0]))] s.heap := hP
  have hl := lv_entry ([.ref rm0, .int 1]) (n := 2) (Nat.le_of_ble_eq_true rfl)
  rw [lg_entry_eq]
  generalize (lg_sl ([.ref rm0, .int 1]) ++ List.replicate (2 - (lg_sl ([.ref rm0, .int 1])).length) Slot.unset).toArray = ls at hl ⊢
  have hl : lv_has ls 2 [(0, .ref rm0), (1, .int 1)] := hl
  refine lv_iload_n hx hb dX12_count_0 rfl (lv_at hl 1 rfl) ?_
  refine lv_tableIn (tgt := 40) hx hb dX12_count_1 (by decide) (by decide) rfl (by decide) ?_
  refine lv_aload_n hx hb dX12_count_40 rfl (lv_at hl 0 rfl) ?_
  refine va_get (D := D) (ci := 10) (v := .ref t0) (C := RX12) (T := TX12) (N := 18) hx hb hts inX12_count_X12 hown hK hP 0 rfl rfl 3 (by decide) (hts (.fieldLink RX12 37 "RungMoney" "town" "LRungMoney$Town;") (by decide +kernel)) (fun _ h9 => h9) rfl dX12_count_41 ?_
  refine va_get (D := D) (ci := 8) (v := .ref t2) (C := RX10) (T := TX10) (N := 9) hx hb hts inX12_count_X10 hown hK hP 1 rfl rfl 2 (by decide) (hts (.fieldLink RX12 142 "RungMoney$Town" "ladders" "LRungMoney$Ladders;") (by decide +kernel)) (fun _ h9 => h9) rfl dX12_count_44 ?_
  refine va_get (D := D) (ci := 1) (v := .int 0) (C := RX3) (T := TX3) (N := 6) hx hb hts inX12_count_X3 hown hK hP 2 rfl rfl 0 (by decide) (hts (.fieldLink RX12 215 "RungMoney$Ladders" "size" "I") (by decide +kernel)) (fun _ h9 => h9) rfl dX12_count_47 ?_
  have hP := hP.sub (ws' := [(rm0, .inr (10, [.ref e0, .ref d0, .ref v0, .ref t0, .ref n0, .ref s0, .ref z0, .ref g0, .ref h0, .ref o0, .ref j0, .ref j1, .ref j2, .ref j3, .int 0, .int (-1), .int (-1), .int (-1)])), (t0, .inr (8, [.int 0, .ref t1, .ref t2, .ref t8, .ref t11, .int 1, .int 0, .int 0, .int 0])), (t2, .inr (1, [.int 0, .ref t3, .ref t4, .ref t5, .ref t6, .ref t7])), (e0, .inr (7, [.ref e1, .int 0]))]) [0, 1, 2, 3] rfl
  have hD := hD.sub (ws' := [(rm0, .inr (10, [.ref e0, .ref d0, .ref v0, .ref t0, .ref n0, .ref s0, .ref z0, .ref g0, .ref h0, .ref o0, .ref j0, .ref j1, .ref j2, .ref j3, .int 0, .int (-1), .int (-1), .int (-1)])), (t0, .inr (8, [.int 0, .ref t1, .ref t2, .ref t8, .ref t11, .int 1, .int 0, .int 0, .int 0])), (t2, .inr (1, [.int 0, .ref t3, .ref t4, .ref t5, .ref t6, .ref t7])), (e0, .inr (7, [.ref e1, .int 0]))]) [0, 1, 2, 3] (by decide) rfl
  exact g_iret hx hb hr rfl hlocks hK (fun _ => 0) hP hD hS rfl dX12_count_50 ⟨Nat.le_of_ble_eq_true rfl, Nat.le_of_ble_eq_true rfl⟩
set_option maxHeartbeats 4000000 in
set_option maxRecDepth 100000 in
theorem cM_count2 (l : Launch) (D : va_G) (k : Nat → ClassId) (rm0 : Nat) (e0 : Nat) (d0 : Nat) (v0 : Nat) (t0 : Nat) (n0 : Nat) (s0 : Nat) (z0 : Nat) (g0 : Nat) (h0 : Nat) (o0 : Nat) (j0 : Nat) (j1 : Nat) (j2 : Nat) (j3 : Nat) (e1 : Nat) (t1 : Nat) (t2 : Nat) (t3 : Nat) (t4 : Nat) (t5 : Nat) (t6 : Nat) (t7 : Nat) (t8 : Nat) (t11 : Nat) : g_Ci l yX12_count wsX12_count ({ frames := 0, cells := 0, slots := 0, locals := 0 }) D k g_E0 [.ref rm0, .int 2] [(rm0, .inr (10, [.ref e0, .ref d0, .ref v0, .ref t0, .ref n0, .ref s0, .ref z0, .ref g0, .ref h0, .ref o0, .ref j0, .ref j1, .ref j2, .ref j3, .int 0, .int (-1), .int (-1), .int (-1)])), (t0, .inr (8, [.int 0, .ref t1, .ref t2, .ref t8, .ref t11, .int 1, .int 0, .int 0, .int 0])), (t2, .inr (1, [.int 0, .ref t3, .ref t4, .ref t5, .ref t6, .ref t7])), (e0, .inr (7, [.ref e1, .int 0]))] 1 (fun u => [(rm0, .inr (10, [.ref e0, .ref d0, .ref v0, .ref t0, .ref n0, .ref s0, .ref z0, .ref g0, .ref h0, .ref o0, .ref j0, .ref j1, .ref j2, .ref j3, .int 0, .int (-1), .int (-1), .int (-1)])), (t0, .inr (8, [.int 0, .ref t1, .ref t2, .ref t8, .ref t11, .int 1, .int 0, .int 0, .int 0])), (t2, .inr (1, [.int 0, .ref t3, .ref t4, .ref t5, .ref t6, .ref t7])), (e0, .inr (7, [.ref e1, .int 0]))]) 0 0 := by
  intro sz
  refine Met.ofW (cc := cX12_count) (maxL := 2) (ret := (some .int)) (by decide) rfl ?_
  intro p e s m args below meth c s₁ B hml hv
  obtain ⟨rfl, hsz, hP, hK, hD0, hE⟩ := hv
  have hx := B.exec
  have hb := B.bytes
  have hr := B.returns
  have hts := atoms_spec (ws := wsX12_count) B.pre
  have hown : s.vm.findClass RX12 = some m.cls := findClass_of_methodNamed B.named
  have hlocks := B.notSynchronized
  subst hsz
  have hD := hD0.self (sz := s.heap.size)
  generalize hAe : va_A [(rm0, .inr (10, [.ref e0, .ref d0, .ref v0, .ref t0, .ref n0, .ref s0, .ref z0, .ref g0, .ref h0, .ref o0, .ref j0, .ref j1, .ref j2, .ref j3, .int 0, .int (-1), .int (-1), .int (-1)])), (t0, .inr (8, [.int 0, .ref t1, .ref t2, .ref t8, .ref t11, .int 1, .int 0, .int 0, .int 0])), (t2, .inr (1, [.int 0, .ref t3, .ref t4, .ref t5, .ref t6, .ref t7])), (e0, .inr (7, [.ref e1, .int 0]))] s.heap.size = A at hD ⊢
  have hA : ∀ q : Nat, s.heap.size ≤ q → A q := fun q h => by rw [← hAe]; exact Or.inr h
  have hS : va_S A s.heap s.heap [] := va_S.rf
  have hP : va_P D vwCl [(rm0, .inr (10, [.ref e0, .ref d0, .ref v0, .ref t0, .ref n0, .ref s0, .ref z0, .ref g0, .ref h0, .ref o0, .ref j0, .ref j1, .ref j2, .ref j3, .int 0, .int (-1), .int (-1), .int (-1)])), (t0, .inr (8, [.int 0, .ref t1, .ref t2, .ref t8, .ref t11, .int 1, .int 0, .int 0, .int 0])), (t2, .inr (1, [.int 0, .ref t3, .ref t4, .ref t5, .ref t6, .ref t7])), (e0, .inr (7, [.ref e1, .int 0]))] s.heap := hP
  have hl := lv_entry ([.ref rm0, .int 2]) (n := 2) (Nat.le_of_ble_eq_true rfl)
  rw [lg_entry_eq]
  generalize (lg_sl ([.ref rm0, .int 2]) ++ List.replicate (2 - (lg_sl ([.ref rm0, .int 2])).length) Slot.unset).toArray = ls at hl ⊢
  have hl : lv_has ls 2 [(0, .ref rm0), (1, .int 2)] := hl
  refine lv_iload_n hx hb dX12_count_0 rfl (lv_at hl 1 rfl) ?_
  refine lv_tableIn (tgt := 51) hx hb dX12_count_1 (by decide) (by decide) rfl (by decide) ?_
  refine lv_aload_n hx hb dX12_count_51 rfl (lv_at hl 0 rfl) ?_
  refine va_get (D := D) (ci := 10) (v := .ref t0) (C := RX12) (T := TX12) (N := 18) hx hb hts inX12_count_X12 hown hK hP 0 rfl rfl 3 (by decide) (hts (.fieldLink RX12 37 "RungMoney" "town" "LRungMoney$Town;") (by decide +kernel)) (fun _ h9 => h9) rfl dX12_count_52 ?_
  refine va_get (D := D) (ci := 8) (v := .int 1) (C := RX10) (T := TX10) (N := 9) hx hb hts inX12_count_X10 hown hK hP 1 rfl rfl 5 (by decide) (hts (.fieldLink RX12 216 "RungMoney$Town" "rot" "I") (by decide +kernel)) (fun _ h9 => h9) rfl dX12_count_55 ?_
  have hP := hP.sub (ws' := [(rm0, .inr (10, [.ref e0, .ref d0, .ref v0, .ref t0, .ref n0, .ref s0, .ref z0, .ref g0, .ref h0, .ref o0, .ref j0, .ref j1, .ref j2, .ref j3, .int 0, .int (-1), .int (-1), .int (-1)])), (t0, .inr (8, [.int 0, .ref t1, .ref t2, .ref t8, .ref t11, .int 1, .int 0, .int 0, .int 0])), (t2, .inr (1, [.int 0, .ref t3, .ref t4, .ref t5, .ref t6, .ref t7])), (e0, .inr (7, [.ref e1, .int 0]))]) [0, 1, 2, 3] rfl
  have hD := hD.sub (ws' := [(rm0, .inr (10, [.ref e0, .ref d0, .ref v0, .ref t0, .ref n0, .ref s0, .ref z0, .ref g0, .ref h0, .ref o0, .ref j0, .ref j1, .ref j2, .ref j3, .int 0, .int (-1), .int (-1), .int (-1)])), (t0, .inr (8, [.int 0, .ref t1, .ref t2, .ref t8, .ref t11, .int 1, .int 0, .int 0, .int 0])), (t2, .inr (1, [.int 0, .ref t3, .ref t4, .ref t5, .ref t6, .ref t7])), (e0, .inr (7, [.ref e1, .int 0]))]) [0, 1, 2, 3] (by decide) rfl
  exact g_iret hx hb hr rfl hlocks hK (fun _ => 0) hP hD hS rfl dX12_count_58 ⟨Nat.le_of_ble_eq_true rfl, Nat.le_of_ble_eq_true rfl⟩
set_option maxHeartbeats 4000000 in
set_option maxRecDepth 100000 in
theorem cM_count3 (l : Launch) (D : va_G) (k : Nat → ClassId) (rm0 : Nat) (e0 : Nat) (d0 : Nat) (v0 : Nat) (t0 : Nat) (n0 : Nat) (s0 : Nat) (z0 : Nat) (g0 : Nat) (h0 : Nat) (o0 : Nat) (j0 : Nat) (j1 : Nat) (j2 : Nat) (j3 : Nat) (e1 : Nat) (t1 : Nat) (t2 : Nat) (t3 : Nat) (t4 : Nat) (t5 : Nat) (t6 : Nat) (t7 : Nat) (t8 : Nat) (t11 : Nat) : g_Ci l yX12_count wsX12_count ({ frames := 0, cells := 0, slots := 0, locals := 0 }) D k g_E0 [.ref rm0, .int 3] [(rm0, .inr (10, [.ref e0, .ref d0, .ref v0, .ref t0, .ref n0, .ref s0, .ref z0, .ref g0, .ref h0, .ref o0, .ref j0, .ref j1, .ref j2, .ref j3, .int 0, .int (-1), .int (-1), .int (-1)])), (t0, .inr (8, [.int 0, .ref t1, .ref t2, .ref t8, .ref t11, .int 1, .int 0, .int 0, .int 0])), (t2, .inr (1, [.int 0, .ref t3, .ref t4, .ref t5, .ref t6, .ref t7])), (e0, .inr (7, [.ref e1, .int 0]))] 0 (fun u => [(rm0, .inr (10, [.ref e0, .ref d0, .ref v0, .ref t0, .ref n0, .ref s0, .ref z0, .ref g0, .ref h0, .ref o0, .ref j0, .ref j1, .ref j2, .ref j3, .int 0, .int (-1), .int (-1), .int (-1)])), (t0, .inr (8, [.int 0, .ref t1, .ref t2, .ref t8, .ref t11, .int 1, .int 0, .int 0, .int 0])), (t2, .inr (1, [.int 0, .ref t3, .ref t4, .ref t5, .ref t6, .ref t7])), (e0, .inr (7, [.ref e1, .int 0]))]) 0 0 := by
  intro sz
  refine Met.ofW (cc := cX12_count) (maxL := 2) (ret := (some .int)) (by decide) rfl ?_
  intro p e s m args below meth c s₁ B hml hv
  obtain ⟨rfl, hsz, hP, hK, hD0, hE⟩ := hv
  have hx := B.exec
  have hb := B.bytes
  have hr := B.returns
  have hts := atoms_spec (ws := wsX12_count) B.pre
  have hown : s.vm.findClass RX12 = some m.cls := findClass_of_methodNamed B.named
  have hlocks := B.notSynchronized
  subst hsz
  have hD := hD0.self (sz := s.heap.size)
  generalize hAe : va_A [(rm0, .inr (10, [.ref e0, .ref d0, .ref v0, .ref t0, .ref n0, .ref s0, .ref z0, .ref g0, .ref h0, .ref o0, .ref j0, .ref j1, .ref j2, .ref j3, .int 0, .int (-1), .int (-1), .int (-1)])), (t0, .inr (8, [.int 0, .ref t1, .ref t2, .ref t8, .ref t11, .int 1, .int 0, .int 0, .int 0])), (t2, .inr (1, [.int 0, .ref t3, .ref t4, .ref t5, .ref t6, .ref t7])), (e0, .inr (7, [.ref e1, .int 0]))] s.heap.size = A at hD ⊢
  have hA : ∀ q : Nat, s.heap.size ≤ q → A q := fun q h => by rw [← hAe]; exact Or.inr h
  have hS : va_S A s.heap s.heap [] := va_S.rf
  have hP : va_P D vwCl [(rm0, .inr (10, [.ref e0, .ref d0, .ref v0, .ref t0, .ref n0, .ref s0, .ref z0, .ref g0, .ref h0, .ref o0, .ref j0, .ref j1, .ref j2, .ref j3, .int 0, .int (-1), .int (-1), .int (-1)])), (t0, .inr (8, [.int 0, .ref t1, .ref t2, .ref t8, .ref t11, .int 1, .int 0, .int 0, .int 0])), (t2, .inr (1, [.int 0, .ref t3, .ref t4, .ref t5, .ref t6, .ref t7])), (e0, .inr (7, [.ref e1, .int 0]))] s.heap := hP
  have hl := lv_entry ([.ref rm0, .int 3]) (n := 2) (Nat.le_of_ble_eq_true rfl)
  rw [lg_entry_eq]
  generalize (lg_sl ([.ref rm0, .int 3]) ++ List.replicate (2 - (lg_sl ([.ref rm0, .int 3])).length) Slot.unset).toArray = ls at hl ⊢
  have hl : lv_has ls 2 [(0, .ref rm0), (1, .int 3)] := hl
  refine lv_iload_n hx hb dX12_count_0 rfl (lv_at hl 1 rfl) ?_
  refine lv_tableIn (tgt := 59) hx hb dX12_count_1 (by decide) (by decide) rfl (by decide) ?_
  refine lv_aload_n hx hb dX12_count_59 rfl (lv_at hl 0 rfl) ?_
  refine va_get (D := D) (ci := 10) (v := .ref e0) (C := RX12) (T := TX12) (N := 18) hx hb hts inX12_count_X12 hown hK hP 0 rfl rfl 0 (by decide) (hts (.fieldLink RX12 10 "RungMoney" "tape" "LRungMoney$Tape;") (by decide +kernel)) (fun _ h9 => h9) rfl dX12_count_60 ?_
  refine va_get (D := D) (ci := 7) (v := .int 0) (C := RX9) (T := TX9) (N := 2) hx hb hts inX12_count_X9 hown hK hP 3 rfl rfl 1 (by decide) (hts (.fieldLink RX12 115 "RungMoney$Tape" "size" "I") (by decide +kernel)) (fun _ h9 => h9) rfl dX12_count_63 ?_
  have hP := hP.sub (ws' := [(rm0, .inr (10, [.ref e0, .ref d0, .ref v0, .ref t0, .ref n0, .ref s0, .ref z0, .ref g0, .ref h0, .ref o0, .ref j0, .ref j1, .ref j2, .ref j3, .int 0, .int (-1), .int (-1), .int (-1)])), (t0, .inr (8, [.int 0, .ref t1, .ref t2, .ref t8, .ref t11, .int 1, .int 0, .int 0, .int 0])), (t2, .inr (1, [.int 0, .ref t3, .ref t4, .ref t5, .ref t6, .ref t7])), (e0, .inr (7, [.ref e1, .int 0]))]) [0, 1, 2, 3] rfl
  have hD := hD.sub (ws' := [(rm0, .inr (10, [.ref e0, .ref d0, .ref v0, .ref t0, .ref n0, .ref s0, .ref z0, .ref g0, .ref h0, .ref o0, .ref j0, .ref j1, .ref j2, .ref j3, .int 0, .int (-1), .int (-1), .int (-1)])), (t0, .inr (8, [.int 0, .ref t1, .ref t2, .ref t8, .ref t11, .int 1, .int 0, .int 0, .int 0])), (t2, .inr (1, [.int 0, .ref t3, .ref t4, .ref t5, .ref t6, .ref t7])), (e0, .inr (7, [.ref e1, .int 0]))]) [0, 1, 2, 3] (by decide) rfl
  exact g_iret hx hb hr rfl hlocks hK (fun _ => 0) hP hD hS rfl dX12_count_66 ⟨Nat.le_of_ble_eq_true rfl, Nat.le_of_ble_eq_true rfl⟩
set_option maxHeartbeats 4000000 in
set_option maxRecDepth 100000 in
theorem cM_countL (l : Launch) (D : va_G) (k : Nat → ClassId) (rm0 : Nat) (e0 : Nat) (d0 : Nat) (v0 : Nat) (t0 : Nat) (n0 : Nat) (s0 : Nat) (z0 : Nat) (g0 : Nat) (h0 : Nat) (o0 : Nat) (j0 : Nat) (j1 : Nat) (j2 : Nat) (j3 : Nat) (e1 : Nat) (t1 : Nat) (t2 : Nat) (t3 : Nat) (t4 : Nat) (t5 : Nat) (t6 : Nat) (t7 : Nat) (t8 : Nat) (t11 : Nat) (p0 : Int32) (hp : p0 < 0) : g_Ci l yX12_count wsX12_count ({ frames := 0, cells := 0, slots := 0, locals := 0 }) D k g_E0 [.ref rm0, .int p0] [(rm0, .inr (10, [.ref e0, .ref d0, .ref v0, .ref t0, .ref n0, .ref s0, .ref z0, .ref g0, .ref h0, .ref o0, .ref j0, .ref j1, .ref j2, .ref j3, .int 0, .int (-1), .int (-1), .int (-1)])), (t0, .inr (8, [.int 0, .ref t1, .ref t2, .ref t8, .ref t11, .int 1, .int 0, .int 0, .int 0])), (t2, .inr (1, [.int 0, .ref t3, .ref t4, .ref t5, .ref t6, .ref t7])), (e0, .inr (7, [.ref e1, .int 0]))] (-1) (fun u => [(rm0, .inr (10, [.ref e0, .ref d0, .ref v0, .ref t0, .ref n0, .ref s0, .ref z0, .ref g0, .ref h0, .ref o0, .ref j0, .ref j1, .ref j2, .ref j3, .int 0, .int (-1), .int (-1), .int (-1)])), (t0, .inr (8, [.int 0, .ref t1, .ref t2, .ref t8, .ref t11, .int 1, .int 0, .int 0, .int 0])), (t2, .inr (1, [.int 0, .ref t3, .ref t4, .ref t5, .ref t6, .ref t7])), (e0, .inr (7, [.ref e1, .int 0]))]) 0 0 := by
  intro sz
  refine Met.ofW (cc := cX12_count) (maxL := 2) (ret := (some .int)) (by decide) rfl ?_
  intro p e s m args below meth c s₁ B hml hv
  obtain ⟨rfl, hsz, hP, hK, hD0, hE⟩ := hv
  have hx := B.exec
  have hb := B.bytes
  have hr := B.returns
  have hts := atoms_spec (ws := wsX12_count) B.pre
  have hown : s.vm.findClass RX12 = some m.cls := findClass_of_methodNamed B.named
  have hlocks := B.notSynchronized
  subst hsz
  have hD := hD0.self (sz := s.heap.size)
  generalize hAe : va_A [(rm0, .inr (10, [.ref e0, .ref d0, .ref v0, .ref t0, .ref n0, .ref s0, .ref z0, .ref g0, .ref h0, .ref o0, .ref j0, .ref j1, .ref j2, .ref j3, .int 0, .int (-1), .int (-1), .int (-1)])), (t0, .inr (8, [.int 0, .ref t1, .ref t2, .ref t8, .ref t11, .int 1, .int 0, .int 0, .int 0])), (t2, .inr (1, [.int 0, .ref t3, .ref t4, .ref t5, .ref t6, .ref t7])), (e0, .inr (7, [.ref e1, .int 0]))] s.heap.size = A at hD ⊢
  have hA : ∀ q : Nat, s.heap.size ≤ q → A q := fun q h => by rw [← hAe]; exact Or.inr h
  have hS : va_S A s.heap s.heap [] := va_S.rf
  have hP : va_P D vwCl [(rm0, .inr (10, [.ref e0, .ref d0, .ref v0, .ref t0, .ref n0, .ref s0, .ref z0, .ref g0, .ref h0, .ref o0, .ref j0, .ref j1, .ref j2, .ref j3, .int 0, .int (-1), .int (-1), .int (-1)])), (t0, .inr (8, [.int 0, .ref t1, .ref t2, .ref t8, .ref t11, .int 1, .int 0, .int 0, .int 0])), (t2, .inr (1, [.int 0, .ref t3, .ref t4, .ref t5, .ref t6, .ref t7])), (e0, .inr (7, [.ref e1, .int 0]))] s.heap := hP
  have hl := lv_entry ([.ref rm0, .int p0]) (n := 2) (Nat.le_of_ble_eq_true rfl)
  rw [lg_entry_eq]
  generalize (lg_sl ([.ref rm0, .int p0]) ++ List.replicate (2 - (lg_sl ([.ref rm0, .int p0])).length) Slot.unset).toArray = ls at hl ⊢
  have hl : lv_has ls 2 [(0, .ref rm0), (1, .int p0)] := hl
  refine lv_iload_n hx hb dX12_count_0 rfl (lv_at hl 1 rfl) ?_
  refine lv_tableOut (x := p0) (tgt := 67) hx hb dX12_count_1 (by simp only [fa_lt, fa_le, fa_eq, t_0] at hp; omega) (by decide) ?_
  refine lv_iconst (v := (-1)) hx hb dX12_count_67 (by decide) ?_
  have hP := hP.sub (ws' := [(rm0, .inr (10, [.ref e0, .ref d0, .ref v0, .ref t0, .ref n0, .ref s0, .ref z0, .ref g0, .ref h0, .ref o0, .ref j0, .ref j1, .ref j2, .ref j3, .int 0, .int (-1), .int (-1), .int (-1)])), (t0, .inr (8, [.int 0, .ref t1, .ref t2, .ref t8, .ref t11, .int 1, .int 0, .int 0, .int 0])), (t2, .inr (1, [.int 0, .ref t3, .ref t4, .ref t5, .ref t6, .ref t7])), (e0, .inr (7, [.ref e1, .int 0]))]) [0, 1, 2, 3] rfl
  have hD := hD.sub (ws' := [(rm0, .inr (10, [.ref e0, .ref d0, .ref v0, .ref t0, .ref n0, .ref s0, .ref z0, .ref g0, .ref h0, .ref o0, .ref j0, .ref j1, .ref j2, .ref j3, .int 0, .int (-1), .int (-1), .int (-1)])), (t0, .inr (8, [.int 0, .ref t1, .ref t2, .ref t8, .ref t11, .int 1, .int 0, .int 0, .int 0])), (t2, .inr (1, [.int 0, .ref t3, .ref t4, .ref t5, .ref t6, .ref t7])), (e0, .inr (7, [.ref e1, .int 0]))]) [0, 1, 2, 3] (by decide) rfl
  exact g_iret hx hb hr rfl hlocks hK (fun _ => 0) hP hD hS rfl dX12_count_68 ⟨Nat.le_of_ble_eq_true rfl, Nat.le_of_ble_eq_true rfl⟩
set_option maxHeartbeats 4000000 in
set_option maxRecDepth 100000 in
theorem cM_countH (l : Launch) (D : va_G) (k : Nat → ClassId) (rm0 : Nat) (e0 : Nat) (d0 : Nat) (v0 : Nat) (t0 : Nat) (n0 : Nat) (s0 : Nat) (z0 : Nat) (g0 : Nat) (h0 : Nat) (o0 : Nat) (j0 : Nat) (j1 : Nat) (j2 : Nat) (j3 : Nat) (e1 : Nat) (t1 : Nat) (t2 : Nat) (t3 : Nat) (t4 : Nat) (t5 : Nat) (t6 : Nat) (t7 : Nat) (t8 : Nat) (t11 : Nat) (p0 : Int32) (hp : 3 < p0) : g_Ci l yX12_count wsX12_count ({ frames := 0, cells := 0, slots := 0, locals := 0 }) D k g_E0 [.ref rm0, .int p0] [(rm0, .inr (10, [.ref e0, .ref d0, .ref v0, .ref t0, .ref n0, .ref s0, .ref z0, .ref g0, .ref h0, .ref o0, .ref j0, .ref j1, .ref j2, .ref j3, .int 0, .int (-1), .int (-1), .int (-1)])), (t0, .inr (8, [.int 0, .ref t1, .ref t2, .ref t8, .ref t11, .int 1, .int 0, .int 0, .int 0])), (t2, .inr (1, [.int 0, .ref t3, .ref t4, .ref t5, .ref t6, .ref t7])), (e0, .inr (7, [.ref e1, .int 0]))] (-1) (fun u => [(rm0, .inr (10, [.ref e0, .ref d0, .ref v0, .ref t0, .ref n0, .ref s0, .ref z0, .ref g0, .ref h0, .ref o0, .ref j0, .ref j1, .ref j2, .ref j3, .int 0, .int (-1), .int (-1), .int (-1)])), (t0, .inr (8, [.int 0, .ref t1, .ref t2, .ref t8, .ref t11, .int 1, .int 0, .int 0, .int 0])), (t2, .inr (1, [.int 0, .ref t3, .ref t4, .ref t5, .ref t6, .ref t7])), (e0, .inr (7, [.ref e1, .int 0]))]) 0 0 := by
  intro sz
  refine Met.ofW (cc := cX12_count) (maxL := 2) (ret := (some .int)) (by decide) rfl ?_
  intro p e s m args below meth c s₁ B hml hv
  obtain ⟨rfl, hsz, hP, hK, hD0, hE⟩ := hv
  have hx := B.exec
  have hb := B.bytes
  have hr := B.returns
  have hts := atoms_spec (ws := wsX12_count) B.pre
  have hown : s.vm.findClass RX12 = some m.cls := findClass_of_methodNamed B.named
  have hlocks := B.notSynchronized
  subst hsz
  have hD := hD0.self (sz := s.heap.size)
  generalize hAe : va_A [(rm0, .inr (10, [.ref e0, .ref d0, .ref v0, .ref t0, .ref n0, .ref s0, .ref z0, .ref g0, .ref h0, .ref o0, .ref j0, .ref j1, .ref j2, .ref j3, .int 0, .int (-1), .int (-1), .int (-1)])), (t0, .inr (8, [.int 0, .ref t1, .ref t2, .ref t8, .ref t11, .int 1, .int 0, .int 0, .int 0])), (t2, .inr (1, [.int 0, .ref t3, .ref t4, .ref t5, .ref t6, .ref t7])), (e0, .inr (7, [.ref e1, .int 0]))] s.heap.size = A at hD ⊢
  have hA : ∀ q : Nat, s.heap.size ≤ q → A q := fun q h => by rw [← hAe]; exact Or.inr h
  have hS : va_S A s.heap s.heap [] := va_S.rf
  have hP : va_P D vwCl [(rm0, .inr (10, [.ref e0, .ref d0, .ref v0, .ref t0, .ref n0, .ref s0, .ref z0, .ref g0, .ref h0, .ref o0, .ref j0, .ref j1, .ref j2, .ref j3, .int 0, .int (-1), .int (-1), .int (-1)])), (t0, .inr (8, [.int 0, .ref t1, .ref t2, .ref t8, .ref t11, .int 1, .int 0, .int 0, .int 0])), (t2, .inr (1, [.int 0, .ref t3, .ref t4, .ref t5, .ref t6, .ref t7])), (e0, .inr (7, [.ref e1, .int 0]))] s.heap := hP
  have hl := lv_entry ([.ref rm0, .int p0]) (n := 2) (Nat.le_of_ble_eq_true rfl)
  rw [lg_entry_eq]
  generalize (lg_sl ([.ref rm0, .int p0]) ++ List.replicate (2 - (lg_sl ([.ref rm0, .int p0])).length) Slot.unset).toArray = ls at hl ⊢
  have hl : lv_has ls 2 [(0, .ref rm0), (1, .int p0)] := hl
  refine lv_iload_n hx hb dX12_count_0 rfl (lv_at hl 1 rfl) ?_
  refine lv_tableOut (x := p0) (tgt := 67) hx hb dX12_count_1 (by simp only [fa_lt, fa_le, fa_eq, t_3] at hp; omega) (by decide) ?_
  refine lv_iconst (v := (-1)) hx hb dX12_count_67 (by decide) ?_
  have hP := hP.sub (ws' := [(rm0, .inr (10, [.ref e0, .ref d0, .ref v0, .ref t0, .ref n0, .ref s0, .ref z0, .ref g0, .ref h0, .ref o0, .ref j0, .ref j1, .ref j2, .ref j3, .int 0, .int (-1), .int (-1), .int (-1)])), (t0, .inr (8, [.int 0, .ref t1, .ref t2, .ref t8, .ref t11, .int 1, .int 0, .int 0, .int 0])), (t2, .inr (1, [.int 0, .ref t3, .ref t4, .ref t5, .ref t6, .ref t7])), (e0, .inr (7, [.ref e1, .int 0]))]) [0, 1, 2, 3] rfl
  have hD := hD.sub (ws' := [(rm0, .inr (10, [.ref e0, .ref d0, .ref v0, .ref t0, .ref n0, .ref s0, .ref z0, .ref g0, .ref h0, .ref o0, .ref j0, .ref j1, .ref j2, .ref j3, .int 0, .int (-1), .int (-1), .int (-1)])), (t0, .inr (8, [.int 0, .ref t1, .ref t2, .ref t8, .ref t11, .int 1, .int 0, .int 0, .int 0])), (t2, .inr (1, [.int 0, .ref t3, .ref t4, .ref t5, .ref t6, .ref t7])), (e0, .inr (7, [.ref e1, .int 0]))]) [0, 1, 2, 3] (by decide) rfl
  exact g_iret hx hb hr rfl hlocks hK (fun _ => 0) hP hD hS rfl dX12_count_68 ⟨Nat.le_of_ble_eq_true rfl, Nat.le_of_ble_eq_true rfl⟩
set_option maxHeartbeats 4000000 in
set_option maxRecDepth 100000 in
theorem cM_said (l : Launch) (D : va_G) (k : Nat → ClassId) (rm0 : Nat) (e0 : Nat) (d0 : Nat) (v0 : Nat) (t0 : Nat) (n0 : Nat) (s0 : Nat) (z0 : Nat) (g0 : Nat) (h0 : Nat) (o0 : Nat) (j0 : Nat) (j1 : Nat) (j2 : Nat) (j3 : Nat) (s1 : Nat) (s2 : Nat) (s3 : Nat) (s4 : Nat) (p0 : Int32) : g_Ci l yX12_said wsX12_said ({ frames := 1, cells := 0, slots := 0, locals := 20 }) D k g_E0 [.ref rm0, .int p0] [(rm0, .inr (10, [.ref e0, .ref d0, .ref v0, .ref t0, .ref n0, .ref s0, .ref z0, .ref g0, .ref h0, .ref o0, .ref j0, .ref j1, .ref j2, .ref j3, .int 0, .int (-1), .int (-1), .int (-1)])), (s0, .inr (6, [.ref s1, .ref s2, .ref s3, .ref s4, .int 0, .int 0]))] (-1) (fun u => [(rm0, .inr (10, [.ref e0, .ref d0, .ref v0, .ref t0, .ref n0, .ref s0, .ref z0, .ref g0, .ref h0, .ref o0, .ref j0, .ref j1, .ref j2, .ref j3, .int 0, .int (-1), .int (-1), .int (-1)])), (s0, .inr (6, [.ref s1, .ref s2, .ref s3, .ref s4, .int 0, .int 0]))]) 0 0 := by
  intro sz
  refine Met.ofW (cc := cX12_said) (maxL := 5) (ret := (some .int)) (by decide) rfl ?_
  intro p e s m args below meth c s₁ B hml hv
  obtain ⟨rfl, hsz, hP, hK, hD0, hE⟩ := hv
  have hx := B.exec
  have hb := B.bytes
  have hr := B.returns
  have hts := atoms_spec (ws := wsX12_said) B.pre
  have hown : s.vm.findClass RX12 = some m.cls := findClass_of_methodNamed B.named
  have hlocks := B.notSynchronized
  subst hsz
  have hD := hD0.self (sz := s.heap.size)
  generalize hAe : va_A [(rm0, .inr (10, [.ref e0, .ref d0, .ref v0, .ref t0, .ref n0, .ref s0, .ref z0, .ref g0, .ref h0, .ref o0, .ref j0, .ref j1, .ref j2, .ref j3, .int 0, .int (-1), .int (-1), .int (-1)])), (s0, .inr (6, [.ref s1, .ref s2, .ref s3, .ref s4, .int 0, .int 0]))] s.heap.size = A at hD ⊢
  have hA : ∀ q : Nat, s.heap.size ≤ q → A q := fun q h => by rw [← hAe]; exact Or.inr h
  have hS : va_S A s.heap s.heap [] := va_S.rf
  have hP : va_P D vwCl [(rm0, .inr (10, [.ref e0, .ref d0, .ref v0, .ref t0, .ref n0, .ref s0, .ref z0, .ref g0, .ref h0, .ref o0, .ref j0, .ref j1, .ref j2, .ref j3, .int 0, .int (-1), .int (-1), .int (-1)])), (s0, .inr (6, [.ref s1, .ref s2, .ref s3, .ref s4, .int 0, .int 0]))] s.heap := hP
  have hl := lv_entry ([.ref rm0, .int p0]) (n := 5) (Nat.le_of_ble_eq_true rfl)
  rw [lg_entry_eq]
  generalize (lg_sl ([.ref rm0, .int p0]) ++ List.replicate (5 - (lg_sl ([.ref rm0, .int p0])).length) Slot.unset).toArray = ls at hl ⊢
  have hl : lv_has ls 5 [(0, .ref rm0), (1, .int p0)] := hl
  refine lv_iload_n hx hb dX12_said_0 rfl (lv_at hl 1 rfl) ?_
  refine lv_iconst (v := (-1)) hx hb dX12_said_1 (by decide) ?_
  refine lv_icmp_lt (tgt := 15) hx hb dX12_said_2 (by decide) (fun c1 => ?_) (fun c1 => ?_)
  · refine lv_iconst (v := (-1)) hx hb dX12_said_15 (by decide) ?_
    have hP := hP.sub (ws' := [(rm0, .inr (10, [.ref e0, .ref d0, .ref v0, .ref t0, .ref n0, .ref s0, .ref z0, .ref g0, .ref h0, .ref o0, .ref j0, .ref j1, .ref j2, .ref j3, .int 0, .int (-1), .int (-1), .int (-1)])), (s0, .inr (6, [.ref s1, .ref s2, .ref s3, .ref s4, .int 0, .int 0]))]) [0, 1] rfl
    have hD := hD.sub (ws' := [(rm0, .inr (10, [.ref e0, .ref d0, .ref v0, .ref t0, .ref n0, .ref s0, .ref z0, .ref g0, .ref h0, .ref o0, .ref j0, .ref j1, .ref j2, .ref j3, .int 0, .int (-1), .int (-1), .int (-1)])), (s0, .inr (6, [.ref s1, .ref s2, .ref s3, .ref s4, .int 0, .int 0]))]) [0, 1] (by decide) rfl
    exact g_iret hx hb hr rfl hlocks hK (fun _ => 0) hP hD hS rfl dX12_said_16 ⟨Nat.le_of_ble_eq_true rfl, Nat.le_of_ble_eq_true rfl⟩
  · refine lv_aload_n hx hb dX12_said_5 rfl (lv_at hl 0 rfl) ?_
    refine va_get (D := D) (ci := 10) (v := .ref s0) (C := RX12) (T := TX12) (N := 18) hx hb hts inX12_said_X12 hown hK hP 0 rfl rfl 5 (by decide) (hts (.fieldLink RX12 47 "RungMoney" "sentence" "LRungMoney$Sentence;") (by decide +kernel)) (fun _ h9 => h9) rfl dX12_said_6 ?_
    refine g_iV (As := []) (rest := []) (wr := [(rm0, .inr (10, [.ref e0, .ref d0, .ref v0, .ref t0, .ref n0, .ref s0, .ref z0, .ref g0, .ref h0, .ref o0, .ref j0, .ref j1, .ref j2, .ref j3, .int 0, .int (-1), .int (-1), .int (-1)]))]) ⟨hx, hb, hml, hown, hts⟩ (cS_isTold l D k s0 s1 s2 s3 s4) (cwV 0 hts gX12_said_X8_isTold rfl rfl rfl (by decide +kernel) ⟨Nat.le_of_ble_eq_true rfl, Nat.le_of_ble_eq_true rfl⟩) g_E0_ok (fun _ _ _ => trivial) hK hP hD hS hA 1 6 rfl rfl rfl [1] [0] rfl rfl (by decide) rfl hl.1 rfl (Nat.le_of_ble_eq_true rfl) dX12_said_9 ⟨Nat.le_of_ble_eq_true rfl, Nat.le_of_ble_eq_true rfl⟩ (fun u2 H locs hP hD hS => ?_)
    have hP : va_P D vwCl [(rm0, .inr (10, [.ref e0, .ref d0, .ref v0, .ref t0, .ref n0, .ref s0, .ref z0, .ref g0, .ref h0, .ref o0, .ref j0, .ref j1, .ref j2, .ref j3, .int 0, .int (-1), .int (-1), .int (-1)])), (s0, .inr (6, [.ref s1, .ref s2, .ref s3, .ref s4, .int 0, .int 0]))] H := hP
    have hD : va_D A [(rm0, .inr (10, [.ref e0, .ref d0, .ref v0, .ref t0, .ref n0, .ref s0, .ref z0, .ref g0, .ref h0, .ref o0, .ref j0, .ref j1, .ref j2, .ref j3, .int 0, .int (-1), .int (-1), .int (-1)])), (s0, .inr (6, [.ref s1, .ref s2, .ref s3, .ref s4, .int 0, .int 0]))] := hD
    refine lv_if_ne (tgt := 17) hx hb dX12_said_12 (by decide) (fun h9 => absurd rfl h9) (fun _ => ?_)
    refine lv_iconst (v := (-1)) hx hb dX12_said_15 (by decide) ?_
    have hP := hP.sub (ws' := [(rm0, .inr (10, [.ref e0, .ref d0, .ref v0, .ref t0, .ref n0, .ref s0, .ref z0, .ref g0, .ref h0, .ref o0, .ref j0, .ref j1, .ref j2, .ref j3, .int 0, .int (-1), .int (-1), .int (-1)])), (s0, .inr (6, [.ref s1, .ref s2, .ref s3, .ref s4, .int 0, .int 0]))]) [0, 1] rfl
    have hD := hD.sub (ws' := [(rm0, .inr (10, [.ref e0, .ref d0, .ref v0, .ref t0, .ref n0, .ref s0, .ref z0, .ref g0, .ref h0, .ref o0, .ref j0, .ref j1, .ref j2, .ref j3, .int 0, .int (-1), .int (-1), .int (-1)])), (s0, .inr (6, [.ref s1, .ref s2, .ref s3, .ref s4, .int 0, .int 0]))]) [0, 1] (by decide) rfl
    exact g_iret hx hb hr rfl hlocks hK (fun _ => 0) hP hD hS rfl dX12_said_16 ⟨Nat.le_of_ble_eq_true rfl, Nat.le_of_ble_eq_true rfl⟩
