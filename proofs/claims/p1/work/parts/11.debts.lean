set_option maxRecDepth 20000 in
theorem ggX1_clear_J7_fill_53178 : GoodIn wsX1_clear wsJ7_fill_53178 := goodIn_r _ [5] (by decide +kernel) (by decide +kernel)
set_option maxRecDepth 20000 in
theorem gX1_clear_J7_fill_53178 : GoodIn wsX1_clear (va_wsS RX1 18 yJ7_fill_53178 wsJ7_fill_53178) := goodIn_app (goodIn_of _ (by decide +kernel)) ggX1_clear_J7_fill_53178
theorem dX1_clear_0 : decode cX1_clear 0 = .ok (.aload_n 0, 1) := by decide +kernel
theorem dX1_clear_1 : decode cX1_clear 1 = .ok (.getfield 9, 3) := by decide +kernel
theorem dX1_clear_4 : decode cX1_clear 4 = .ok (.iconst 0, 1) := by decide +kernel
theorem dX1_clear_5 : decode cX1_clear 5 = .ok (.invokestatic 18, 3) := by decide +kernel
theorem dX1_clear_8 : decode cX1_clear 8 = .ok (.return_, 1) := by decide +kernel
theorem dX1_copy_0 : decode cX1_copy 0 = .ok (.aload_n 1, 1) := by decide +kernel
theorem dX1_copy_1 : decode cX1_copy 1 = .ok (.getfield 9, 3) := by decide +kernel
theorem dX1_copy_4 : decode cX1_copy 4 = .ok (.iconst 0, 1) := by decide +kernel
theorem dX1_copy_5 : decode cX1_copy 5 = .ok (.aload_n 0, 1) := by decide +kernel
theorem dX1_copy_6 : decode cX1_copy 6 = .ok (.getfield 9, 3) := by decide +kernel
theorem dX1_copy_9 : decode cX1_copy 9 = .ok (.iconst 0, 1) := by decide +kernel
theorem dX1_copy_10 : decode cX1_copy 10 = .ok (.aload_n 0, 1) := by decide +kernel
theorem dX1_copy_11 : decode cX1_copy 11 = .ok (.getfield 9, 3) := by decide +kernel
theorem dX1_copy_14 : decode cX1_copy 14 = .ok (.arraylength, 1) := by decide +kernel
theorem dX1_copy_15 : decode cX1_copy 15 = .ok (.invokestatic 24, 3) := by decide +kernel
theorem dX1_copy_18 : decode cX1_copy 18 = .ok (.return_, 1) := by decide +kernel
theorem dX1_same_0 : decode cX1_same 0 = .ok (.iconst 0, 1) := by decide +kernel
theorem dX1_same_1 : decode cX1_same 1 = .ok (.istore_n 2, 1) := by decide +kernel
theorem dX1_same_2 : decode cX1_same 2 = .ok (.iload_n 2, 1) := by decide +kernel
theorem dX1_same_3 : decode cX1_same 3 = .ok (.aload_n 0, 1) := by decide +kernel
theorem dX1_same_4 : decode cX1_same 4 = .ok (.getfield 9, 3) := by decide +kernel
theorem dX1_same_7 : decode cX1_same 7 = .ok (.arraylength, 1) := by decide +kernel
theorem dX1_same_8 : decode cX1_same 8 = .ok (.if_icmp .ge 26, 3) := by decide +kernel
theorem dX1_same_11 : decode cX1_same 11 = .ok (.aload_n 0, 1) := by decide +kernel
theorem dX1_same_12 : decode cX1_same 12 = .ok (.getfield 9, 3) := by decide +kernel
theorem dX1_same_15 : decode cX1_same 15 = .ok (.iload_n 2, 1) := by decide +kernel
theorem dX1_same_16 : decode cX1_same 16 = .ok (.iaload, 1) := by decide +kernel
theorem dX1_same_17 : decode cX1_same 17 = .ok (.aload_n 1, 1) := by decide +kernel
theorem dX1_same_18 : decode cX1_same 18 = .ok (.getfield 9, 3) := by decide +kernel
theorem dX1_same_21 : decode cX1_same 21 = .ok (.iload_n 2, 1) := by decide +kernel
theorem dX1_same_22 : decode cX1_same 22 = .ok (.iaload, 1) := by decide +kernel
theorem dX1_same_23 : decode cX1_same 23 = .ok (.if_icmp .eq 5, 3) := by decide +kernel
theorem dX1_same_28 : decode cX1_same 28 = .ok (.iinc 2 1, 3) := by decide +kernel
theorem dX1_same_31 : decode cX1_same 31 = .ok (.goto (-29), 3) := by decide +kernel
theorem dX1_same_34 : decode cX1_same 34 = .ok (.iconst 1, 1) := by decide +kernel
theorem dX1_same_35 : decode cX1_same 35 = .ok (.ireturn, 1) := by decide +kernel
theorem dX1_isPair_0 : decode cX1_isPair 0 = .ok (.iload_n 0, 1) := by decide +kernel
theorem dX1_isPair_1 : decode cX1_isPair 1 = .ok (.ifCond .lt 23, 3) := by decide +kernel
theorem dX1_isPair_4 : decode cX1_isPair 4 = .ok (.iload_n 0, 1) := by decide +kernel
theorem dX1_isPair_5 : decode cX1_isPair 5 = .ok (.bipush 6, 2) := by decide +kernel
theorem dX1_isPair_7 : decode cX1_isPair 7 = .ok (.if_icmp .ge 17, 3) := by decide +kernel
theorem dX1_isPair_10 : decode cX1_isPair 10 = .ok (.iload_n 1, 1) := by decide +kernel
theorem dX1_isPair_11 : decode cX1_isPair 11 = .ok (.ifCond .lt 13, 3) := by decide +kernel
theorem dX1_isPair_14 : decode cX1_isPair 14 = .ok (.iload_n 1, 1) := by decide +kernel
theorem dX1_isPair_15 : decode cX1_isPair 15 = .ok (.bipush 6, 2) := by decide +kernel
theorem dX1_isPair_17 : decode cX1_isPair 17 = .ok (.if_icmp .ge 7, 3) := by decide +kernel
theorem dX1_isPair_20 : decode cX1_isPair 20 = .ok (.iconst 1, 1) := by decide +kernel
theorem dX1_isPair_21 : decode cX1_isPair 21 = .ok (.goto 4, 3) := by decide +kernel
theorem dX1_isPair_25 : decode cX1_isPair 25 = .ok (.ireturn, 1) := by decide +kernel
set_option maxRecDepth 20000 in
theorem ggX1_of_X1_isPair : GoodIn wsX1_of wsX1_isPair := goodIn_r _ [5] (by decide +kernel) (by decide +kernel)
set_option maxRecDepth 20000 in
theorem gX1_of_X1_isPair : GoodIn wsX1_of (va_wsS RX1 30 yX1_isPair wsX1_isPair) := goodIn_app (goodIn_of _ (by decide +kernel)) ggX1_of_X1_isPair
theorem dX1_of_0 : decode cX1_of 0 = .ok (.iload_n 1, 1) := by decide +kernel
theorem dX1_of_1 : decode cX1_of 1 = .ok (.iload_n 2, 1) := by decide +kernel
theorem dX1_of_2 : decode cX1_of 2 = .ok (.invokestatic 30, 3) := by decide +kernel
theorem dX1_of_5 : decode cX1_of 5 = .ok (.ifCond .eq 17, 3) := by decide +kernel
theorem dX1_of_8 : decode cX1_of 8 = .ok (.aload_n 0, 1) := by decide +kernel
theorem dX1_of_9 : decode cX1_of 9 = .ok (.getfield 9, 3) := by decide +kernel
theorem dX1_of_12 : decode cX1_of 12 = .ok (.iload_n 1, 1) := by decide +kernel
theorem dX1_of_13 : decode cX1_of 13 = .ok (.bipush 6, 2) := by decide +kernel
theorem dX1_of_15 : decode cX1_of 15 = .ok (.imul, 1) := by decide +kernel
theorem dX1_of_16 : decode cX1_of 16 = .ok (.iload_n 2, 1) := by decide +kernel
theorem dX1_of_17 : decode cX1_of 17 = .ok (.iadd, 1) := by decide +kernel
theorem dX1_of_18 : decode cX1_of 18 = .ok (.iaload, 1) := by decide +kernel
theorem dX1_of_19 : decode cX1_of 19 = .ok (.goto 4, 3) := by decide +kernel
theorem dX1_of_23 : decode cX1_of 23 = .ok (.ireturn, 1) := by decide +kernel
set_option maxRecDepth 20000 in
theorem ggX1_owes_X1_of : GoodIn wsX1_owes wsX1_of := goodIn_r _ [5, 6, 7, 8, 4, 9, 10, 11] (by decide +kernel) (by decide +kernel)
set_option maxRecDepth 20000 in
theorem gX1_owes_X1_of : GoodIn wsX1_owes (wsV RX1 34 RX1 yX1_of wsX1_of) := goodIn_app (goodIn_of _ (by decide +kernel)) ggX1_owes_X1_of
theorem dX1_owes_0 : decode cX1_owes 0 = .ok (.iconst 0, 1) := by decide +kernel
theorem dX1_owes_1 : decode cX1_owes 1 = .ok (.istore_n 2, 1) := by decide +kernel
theorem dX1_owes_2 : decode cX1_owes 2 = .ok (.iconst 0, 1) := by decide +kernel
theorem dX1_owes_3 : decode cX1_owes 3 = .ok (.istore_n 3, 1) := by decide +kernel
theorem dX1_owes_4 : decode cX1_owes 4 = .ok (.iload_n 3, 1) := by decide +kernel
theorem dX1_owes_5 : decode cX1_owes 5 = .ok (.bipush 6, 2) := by decide +kernel
theorem dX1_owes_7 : decode cX1_owes 7 = .ok (.if_icmp .ge 18, 3) := by decide +kernel
theorem dX1_owes_10 : decode cX1_owes 10 = .ok (.iload_n 2, 1) := by decide +kernel
theorem dX1_owes_11 : decode cX1_owes 11 = .ok (.aload_n 0, 1) := by decide +kernel
theorem dX1_owes_12 : decode cX1_owes 12 = .ok (.iload_n 1, 1) := by decide +kernel
theorem dX1_owes_13 : decode cX1_owes 13 = .ok (.iload_n 3, 1) := by decide +kernel
theorem dX1_owes_14 : decode cX1_owes 14 = .ok (.invokevirtual 34, 3) := by decide +kernel
theorem dX1_owes_17 : decode cX1_owes 17 = .ok (.iadd, 1) := by decide +kernel
theorem dX1_owes_18 : decode cX1_owes 18 = .ok (.istore_n 2, 1) := by decide +kernel
theorem dX1_owes_19 : decode cX1_owes 19 = .ok (.iinc 3 1, 3) := by decide +kernel
theorem dX1_owes_22 : decode cX1_owes 22 = .ok (.goto (-18), 3) := by decide +kernel
theorem dX1_owes_25 : decode cX1_owes 25 = .ok (.iload_n 2, 1) := by decide +kernel
theorem dX1_owes_26 : decode cX1_owes 26 = .ok (.ireturn, 1) := by decide +kernel
set_option maxRecDepth 20000 in
theorem ggX1_owed_X1_owedWithout : GoodIn wsX1_owed wsX1_owedWithout := goodIn_r _ [5, 6, 7, 8, 4, 9, 10, 11, 12, 13, 14, 15] (by decide +kernel) (by decide +kernel)
set_option maxRecDepth 20000 in
theorem gX1_owed_X1_owedWithout : GoodIn wsX1_owed (wsV RX1 38 RX1 yX1_owedWithout wsX1_owedWithout) := goodIn_app (goodIn_of _ (by decide +kernel)) ggX1_owed_X1_owedWithout
theorem dX1_owed_0 : decode cX1_owed 0 = .ok (.aload_n 0, 1) := by decide +kernel
theorem dX1_owed_1 : decode cX1_owed 1 = .ok (.iload_n 1, 1) := by decide +kernel
theorem dX1_owed_2 : decode cX1_owed 2 = .ok (.iconst 0, 1) := by decide +kernel
theorem dX1_owed_3 : decode cX1_owed 3 = .ok (.invokevirtual 38, 3) := by decide +kernel
theorem dX1_owed_6 : decode cX1_owed 6 = .ok (.ireturn, 1) := by decide +kernel
set_option maxRecDepth 20000 in
theorem ggX1_owedWithout_X1_of : GoodIn wsX1_owedWithout wsX1_of := goodIn_r _ [5, 6, 7, 8, 4, 9, 10, 11] (by decide +kernel) (by decide +kernel)
set_option maxRecDepth 20000 in
theorem gX1_owedWithout_X1_of : GoodIn wsX1_owedWithout (wsV RX1 34 RX1 yX1_of wsX1_of) := goodIn_app (goodIn_of _ (by decide +kernel)) ggX1_owedWithout_X1_of
theorem dX1_owedWithout_0 : decode cX1_owedWithout 0 = .ok (.iconst 0, 1) := by decide +kernel
theorem dX1_owedWithout_1 : decode cX1_owedWithout 1 = .ok (.istore_n 3, 1) := by decide +kernel
theorem dX1_owedWithout_2 : decode cX1_owedWithout 2 = .ok (.iconst 0, 1) := by decide +kernel
theorem dX1_owedWithout_3 : decode cX1_owedWithout 3 = .ok (.istore 4, 2) := by decide +kernel
theorem dX1_owedWithout_5 : decode cX1_owedWithout 5 = .ok (.iload 4, 2) := by decide +kernel
theorem dX1_owedWithout_7 : decode cX1_owedWithout 7 = .ok (.bipush 6, 2) := by decide +kernel
theorem dX1_owedWithout_9 : decode cX1_owedWithout 9 = .ok (.if_icmp .ge 28, 3) := by decide +kernel
theorem dX1_owedWithout_12 : decode cX1_owedWithout 12 = .ok (.iload_n 2, 1) := by decide +kernel
theorem dX1_owedWithout_13 : decode cX1_owedWithout 13 = .ok (.iload 4, 2) := by decide +kernel
theorem dX1_owedWithout_15 : decode cX1_owedWithout 15 = .ok (.ishr, 1) := by decide +kernel
theorem dX1_owedWithout_16 : decode cX1_owedWithout 16 = .ok (.iconst 1, 1) := by decide +kernel
theorem dX1_owedWithout_17 : decode cX1_owedWithout 17 = .ok (.iand, 1) := by decide +kernel
theorem dX1_owedWithout_18 : decode cX1_owedWithout 18 = .ok (.ifCond .ne 13, 3) := by decide +kernel
theorem dX1_owedWithout_21 : decode cX1_owedWithout 21 = .ok (.iload_n 3, 1) := by decide +kernel
theorem dX1_owedWithout_22 : decode cX1_owedWithout 22 = .ok (.aload_n 0, 1) := by decide +kernel
theorem dX1_owedWithout_23 : decode cX1_owedWithout 23 = .ok (.iload 4, 2) := by decide +kernel
theorem dX1_owedWithout_25 : decode cX1_owedWithout 25 = .ok (.iload_n 1, 1) := by decide +kernel
theorem dX1_owedWithout_26 : decode cX1_owedWithout 26 = .ok (.invokevirtual 34, 3) := by decide +kernel
theorem dX1_owedWithout_29 : decode cX1_owedWithout 29 = .ok (.iadd, 1) := by decide +kernel
theorem dX1_owedWithout_30 : decode cX1_owedWithout 30 = .ok (.istore_n 3, 1) := by decide +kernel
theorem dX1_owedWithout_31 : decode cX1_owedWithout 31 = .ok (.iinc 4 1, 3) := by decide +kernel
theorem dX1_owedWithout_34 : decode cX1_owedWithout 34 = .ok (.goto (-29), 3) := by decide +kernel
theorem dX1_owedWithout_37 : decode cX1_owedWithout 37 = .ok (.iload_n 3, 1) := by decide +kernel
theorem dX1_owedWithout_38 : decode cX1_owedWithout 38 = .ok (.ireturn, 1) := by decide +kernel
set_option maxRecDepth 20000 in
theorem ggX1_balance_X1_owed : GoodIn wsX1_balance wsX1_owed := goodIn_r _ [5, 6, 7, 8, 4, 9, 10, 11, 12, 13, 14, 15, 16, 17, 22, 23] (by decide +kernel) (by decide +kernel)
set_option maxRecDepth 20000 in
theorem gX1_balance_X1_owed : GoodIn wsX1_balance (wsV RX1 41 RX1 yX1_owed wsX1_owed) := goodIn_app (goodIn_of _ (by decide +kernel)) ggX1_balance_X1_owed
set_option maxRecDepth 20000 in
theorem ggX1_balance_X1_owes : GoodIn wsX1_balance wsX1_owes := goodIn_r _ [21, 10, 11, 12, 4, 13, 14, 15, 16, 17, 22, 23] (by decide +kernel) (by decide +kernel)
set_option maxRecDepth 20000 in
theorem gX1_balance_X1_owes : GoodIn wsX1_balance (wsV RX1 45 RX1 yX1_owes wsX1_owes) := goodIn_app (goodIn_of _ (by decide +kernel)) ggX1_balance_X1_owes
theorem dX1_balance_0 : decode cX1_balance 0 = .ok (.aload_n 0, 1) := by decide +kernel
theorem dX1_balance_1 : decode cX1_balance 1 = .ok (.iload_n 1, 1) := by decide +kernel
theorem dX1_balance_2 : decode cX1_balance 2 = .ok (.invokevirtual 41, 3) := by decide +kernel
theorem dX1_balance_5 : decode cX1_balance 5 = .ok (.aload_n 0, 1) := by decide +kernel
theorem dX1_balance_6 : decode cX1_balance 6 = .ok (.iload_n 1, 1) := by decide +kernel
theorem dX1_balance_7 : decode cX1_balance 7 = .ok (.invokevirtual 45, 3) := by decide +kernel
theorem dX1_balance_10 : decode cX1_balance 10 = .ok (.isub, 1) := by decide +kernel
theorem dX1_balance_11 : decode cX1_balance 11 = .ok (.ireturn, 1) := by decide +kernel
theorem dX1_all_0 : decode cX1_all 0 = .ok (.iconst 0, 1) := by decide +kernel
theorem dX1_all_1 : decode cX1_all 1 = .ok (.istore_n 1, 1) := by decide +kernel
theorem dX1_all_2 : decode cX1_all 2 = .ok (.iconst 0, 1) := by decide +kernel
theorem dX1_all_3 : decode cX1_all 3 = .ok (.istore_n 2, 1) := by decide +kernel
theorem dX1_all_4 : decode cX1_all 4 = .ok (.iload_n 2, 1) := by decide +kernel
theorem dX1_all_5 : decode cX1_all 5 = .ok (.aload_n 0, 1) := by decide +kernel
theorem dX1_all_6 : decode cX1_all 6 = .ok (.getfield 9, 3) := by decide +kernel
theorem dX1_all_9 : decode cX1_all 9 = .ok (.arraylength, 1) := by decide +kernel
theorem dX1_all_10 : decode cX1_all 10 = .ok (.if_icmp .ge 18, 3) := by decide +kernel
theorem dX1_all_13 : decode cX1_all 13 = .ok (.iload_n 1, 1) := by decide +kernel
theorem dX1_all_14 : decode cX1_all 14 = .ok (.aload_n 0, 1) := by decide +kernel
theorem dX1_all_15 : decode cX1_all 15 = .ok (.getfield 9, 3) := by decide +kernel
theorem dX1_all_18 : decode cX1_all 18 = .ok (.iload_n 2, 1) := by decide +kernel
theorem dX1_all_19 : decode cX1_all 19 = .ok (.iaload, 1) := by decide +kernel
theorem dX1_all_20 : decode cX1_all 20 = .ok (.iadd, 1) := by decide +kernel
theorem dX1_all_21 : decode cX1_all 21 = .ok (.istore_n 1, 1) := by decide +kernel
theorem dX1_all_22 : decode cX1_all 22 = .ok (.iinc 2 1, 3) := by decide +kernel
theorem dX1_all_25 : decode cX1_all 25 = .ok (.goto (-21), 3) := by decide +kernel
theorem dX1_all_28 : decode cX1_all 28 = .ok (.iload_n 1, 1) := by decide +kernel
theorem dX1_all_29 : decode cX1_all 29 = .ok (.ireturn, 1) := by decide +kernel
set_option maxRecDepth 20000 in
theorem ggX1_allStruck_X1_balance : GoodIn wsX1_allStruck wsX1_balance := goodIn_r _ [9, 10, 11, 12, 8, 13, 14, 15, 16, 17, 18, 19, 20, 21, 22, 23, 24, 25, 26, 27, 28, 29, 30, 31] (by decide +kernel) (by decide +kernel)
set_option maxRecDepth 20000 in
theorem gX1_allStruck_X1_balance : GoodIn wsX1_allStruck (wsV RX1 48 RX1 yX1_balance wsX1_balance) := goodIn_app (goodIn_of _ (by decide +kernel)) ggX1_allStruck_X1_balance
theorem dX1_allStruck_0 : decode cX1_allStruck 0 = .ok (.iconst 0, 1) := by decide +kernel
theorem dX1_allStruck_1 : decode cX1_allStruck 1 = .ok (.istore_n 1, 1) := by decide +kernel
theorem dX1_allStruck_2 : decode cX1_allStruck 2 = .ok (.iconst 0, 1) := by decide +kernel
theorem dX1_allStruck_3 : decode cX1_allStruck 3 = .ok (.istore_n 2, 1) := by decide +kernel
theorem dX1_allStruck_4 : decode cX1_allStruck 4 = .ok (.iload_n 2, 1) := by decide +kernel
theorem dX1_allStruck_5 : decode cX1_allStruck 5 = .ok (.bipush 6, 2) := by decide +kernel
theorem dX1_allStruck_7 : decode cX1_allStruck 7 = .ok (.if_icmp .ge 21, 3) := by decide +kernel
theorem dX1_allStruck_10 : decode cX1_allStruck 10 = .ok (.iload_n 1, 1) := by decide +kernel
theorem dX1_allStruck_11 : decode cX1_allStruck 11 = .ok (.aload_n 0, 1) := by decide +kernel
theorem dX1_allStruck_12 : decode cX1_allStruck 12 = .ok (.iload_n 2, 1) := by decide +kernel
theorem dX1_allStruck_13 : decode cX1_allStruck 13 = .ok (.invokevirtual 48, 3) := by decide +kernel
theorem dX1_allStruck_16 : decode cX1_allStruck 16 = .ok (.iconst 0, 1) := by decide +kernel
theorem dX1_allStruck_17 : decode cX1_allStruck 17 = .ok (.invokestatic 51, 3) := by decide +kernel
theorem dX1_allStruck_20 : decode cX1_allStruck 20 = .ok (.iadd, 1) := by decide +kernel
theorem dX1_allStruck_21 : decode cX1_allStruck 21 = .ok (.istore_n 1, 1) := by decide +kernel
theorem dX1_allStruck_22 : decode cX1_allStruck 22 = .ok (.iinc 2 1, 3) := by decide +kernel
theorem dX1_allStruck_25 : decode cX1_allStruck 25 = .ok (.goto (-21), 3) := by decide +kernel
theorem dX1_allStruck_28 : decode cX1_allStruck 28 = .ok (.iload_n 1, 1) := by decide +kernel
theorem dX1_allStruck_29 : decode cX1_allStruck 29 = .ok (.ireturn, 1) := by decide +kernel
set_option maxRecDepth 20000 in
theorem ggX1_strikeFrom_X1_clear : GoodIn wsX1_strikeFrom wsX1_clear := goodIn_r _ [10, 11, 12, 13, 14, 15, 43, 44] (by decide +kernel) (by decide +kernel)
set_option maxRecDepth 20000 in
theorem gX1_strikeFrom_X1_clear : GoodIn wsX1_strikeFrom (wsV RX1 56 RX1 yX1_clear wsX1_clear) := goodIn_app (goodIn_of _ (by decide +kernel)) ggX1_strikeFrom_X1_clear
set_option maxRecDepth 20000 in
theorem ggX1_strikeFrom_X1_balance : GoodIn wsX1_strikeFrom wsX1_balance := goodIn_r _ [19, 20, 21, 22, 9, 23, 24, 25, 26, 27, 28, 29, 30, 31, 11, 32, 33, 34, 35, 36, 37, 38, 43, 44] (by decide +kernel) (by decide +kernel)
set_option maxRecDepth 20000 in
theorem gX1_strikeFrom_X1_balance : GoodIn wsX1_strikeFrom (wsV RX1 48 RX1 yX1_balance wsX1_balance) := goodIn_app (goodIn_of _ (by decide +kernel)) ggX1_strikeFrom_X1_balance
theorem dX1_strikeFrom_0 : decode cX1_strikeFrom 0 = .ok (.aload_n 0, 1) := by decide +kernel
theorem dX1_strikeFrom_1 : decode cX1_strikeFrom 1 = .ok (.invokevirtual 56, 3) := by decide +kernel
theorem dX1_strikeFrom_4 : decode cX1_strikeFrom 4 = .ok (.iconst 0, 1) := by decide +kernel
theorem dX1_strikeFrom_5 : decode cX1_strikeFrom 5 = .ok (.istore_n 2, 1) := by decide +kernel
theorem dX1_strikeFrom_6 : decode cX1_strikeFrom 6 = .ok (.iload_n 2, 1) := by decide +kernel
theorem dX1_strikeFrom_7 : decode cX1_strikeFrom 7 = .ok (.bipush 6, 2) := by decide +kernel
theorem dX1_strikeFrom_9 : decode cX1_strikeFrom 9 = .ok (.if_icmp .ge 20, 3) := by decide +kernel
theorem dX1_strikeFrom_12 : decode cX1_strikeFrom 12 = .ok (.aload_n 0, 1) := by decide +kernel
theorem dX1_strikeFrom_13 : decode cX1_strikeFrom 13 = .ok (.getfield 15, 3) := by decide +kernel
theorem dX1_strikeFrom_16 : decode cX1_strikeFrom 16 = .ok (.iload_n 2, 1) := by decide +kernel
theorem dX1_strikeFrom_17 : decode cX1_strikeFrom 17 = .ok (.aload_n 1, 1) := by decide +kernel
theorem dX1_strikeFrom_18 : decode cX1_strikeFrom 18 = .ok (.iload_n 2, 1) := by decide +kernel
theorem dX1_strikeFrom_19 : decode cX1_strikeFrom 19 = .ok (.invokevirtual 48, 3) := by decide +kernel
theorem dX1_strikeFrom_22 : decode cX1_strikeFrom 22 = .ok (.iastore, 1) := by decide +kernel
theorem dX1_strikeFrom_23 : decode cX1_strikeFrom 23 = .ok (.iinc 2 1, 3) := by decide +kernel
theorem dX1_strikeFrom_26 : decode cX1_strikeFrom 26 = .ok (.goto (-20), 3) := by decide +kernel
theorem dX1_strikeFrom_29 : decode cX1_strikeFrom 29 = .ok (.iconst 0, 1) := by decide +kernel
theorem dX1_strikeFrom_30 : decode cX1_strikeFrom 30 = .ok (.istore_n 2, 1) := by decide +kernel
theorem dX1_strikeFrom_31 : decode cX1_strikeFrom 31 = .ok (.iload_n 2, 1) := by decide +kernel
theorem dX1_strikeFrom_32 : decode cX1_strikeFrom 32 = .ok (.bipush 6, 2) := by decide +kernel
theorem dX1_strikeFrom_34 : decode cX1_strikeFrom 34 = .ok (.if_icmp .ge 89, 3) := by decide +kernel
theorem dX1_strikeFrom_37 : decode cX1_strikeFrom 37 = .ok (.iconst 0, 1) := by decide +kernel
theorem dX1_strikeFrom_38 : decode cX1_strikeFrom 38 = .ok (.istore_n 3, 1) := by decide +kernel
theorem dX1_strikeFrom_39 : decode cX1_strikeFrom 39 = .ok (.iload_n 3, 1) := by decide +kernel
theorem dX1_strikeFrom_40 : decode cX1_strikeFrom 40 = .ok (.bipush 6, 2) := by decide +kernel
theorem dX1_strikeFrom_42 : decode cX1_strikeFrom 42 = .ok (.if_icmp .ge 75, 3) := by decide +kernel
theorem dX1_strikeFrom_45 : decode cX1_strikeFrom 45 = .ok (.aload_n 0, 1) := by decide +kernel
theorem dX1_strikeFrom_46 : decode cX1_strikeFrom 46 = .ok (.getfield 15, 3) := by decide +kernel
theorem dX1_strikeFrom_49 : decode cX1_strikeFrom 49 = .ok (.iload_n 2, 1) := by decide +kernel
theorem dX1_strikeFrom_50 : decode cX1_strikeFrom 50 = .ok (.iaload, 1) := by decide +kernel
theorem dX1_strikeFrom_51 : decode cX1_strikeFrom 51 = .ok (.ifCond .ge 60, 3) := by decide +kernel
theorem dX1_strikeFrom_111 : decode cX1_strikeFrom 111 = .ok (.iinc 3 1, 3) := by decide +kernel
theorem dX1_strikeFrom_114 : decode cX1_strikeFrom 114 = .ok (.goto (-75), 3) := by decide +kernel
theorem dX1_strikeFrom_117 : decode cX1_strikeFrom 117 = .ok (.iinc 2 1, 3) := by decide +kernel
theorem dX1_strikeFrom_120 : decode cX1_strikeFrom 120 = .ok (.goto (-89), 3) := by decide +kernel
theorem dX1_strikeFrom_123 : decode cX1_strikeFrom 123 = .ok (.return_, 1) := by decide +kernel
theorem dJ7_fill_53178_0 : decode cJ7_fill_53178 0 = .ok (.iconst 0, 1) := by decide +kernel
theorem dJ7_fill_53178_1 : decode cJ7_fill_53178 1 = .ok (.istore_n 2, 1) := by decide +kernel
theorem dJ7_fill_53178_2 : decode cJ7_fill_53178 2 = .ok (.aload_n 0, 1) := by decide +kernel
theorem dJ7_fill_53178_3 : decode cJ7_fill_53178 3 = .ok (.arraylength, 1) := by decide +kernel
theorem dJ7_fill_53178_4 : decode cJ7_fill_53178 4 = .ok (.istore_n 3, 1) := by decide +kernel
theorem dJ7_fill_53178_5 : decode cJ7_fill_53178 5 = .ok (.iload_n 2, 1) := by decide +kernel
theorem dJ7_fill_53178_6 : decode cJ7_fill_53178 6 = .ok (.iload_n 3, 1) := by decide +kernel
theorem dJ7_fill_53178_7 : decode cJ7_fill_53178 7 = .ok (.if_icmp .ge 13, 3) := by decide +kernel
theorem dJ7_fill_53178_10 : decode cJ7_fill_53178 10 = .ok (.aload_n 0, 1) := by decide +kernel
theorem dJ7_fill_53178_11 : decode cJ7_fill_53178 11 = .ok (.iload_n 2, 1) := by decide +kernel
theorem dJ7_fill_53178_12 : decode cJ7_fill_53178 12 = .ok (.iload_n 1, 1) := by decide +kernel
theorem dJ7_fill_53178_13 : decode cJ7_fill_53178 13 = .ok (.iastore, 1) := by decide +kernel
theorem dJ7_fill_53178_14 : decode cJ7_fill_53178 14 = .ok (.iinc 2 1, 3) := by decide +kernel
theorem dJ7_fill_53178_17 : decode cJ7_fill_53178 17 = .ok (.goto (-12), 3) := by decide +kernel
theorem dJ7_fill_53178_20 : decode cJ7_fill_53178 20 = .ok (.return_, 1) := by decide +kernel
theorem inX1_clear_X1 : ∀ w ∈ wsX10, w ∈ wsX1_clear := by decide +kernel
theorem inX1_copy_X1 : ∀ w ∈ wsX10, w ∈ wsX1_copy := by decide +kernel
theorem inX1_same_X1 : ∀ w ∈ wsX10, w ∈ wsX1_same := by decide +kernel
theorem inX1_of_X1 : ∀ w ∈ wsX10, w ∈ wsX1_of := by decide +kernel
theorem inX1_all_X1 : ∀ w ∈ wsX10, w ∈ wsX1_all := by decide +kernel
theorem inX1_strikeFrom_X1 : ∀ w ∈ wsX10, w ∈ wsX1_strikeFrom := by decide +kernel
set_option maxHeartbeats 4000000 in
set_option maxRecDepth 100000 in
theorem cFill36 (l : Launch) (D : va_G) (k : Nat → ClassId) (a0 : Nat) : g_Cv l yJ7_fill_53178 wsJ7_fill_53178 ({ frames := 0, cells := 0, slots := 0, locals := 0 }) D k g_E0 [.ref a0, .int 0] [(a0, .inl (k 0, 36, .inl (fun _ => 0)))] (fun u => [(a0, .inl (k 0, 36, .inl (fun _ => 0)))]) 0 0 := by
  intro sz
  refine va_MetF (cc := cJ7_fill_53178) (maxL := 4) (ret := none) (by decide) rfl ?_
  intro p e s m args below meth c s₁ B hml hv
  obtain ⟨rfl, hsz, hP, hK, hD0, hE⟩ := hv
  have hx := B.exec
  have hb := B.bytes
  have hr := B.returns
  have hts := atoms_spec (ws := wsJ7_fill_53178) B.pre
  have hown : s.vm.findClass RJ7 = some m.cls := findClass_of_methodNamed B.named
  have hlocks := B.notSynchronized
  subst hsz
  have hD := hD0.self (sz := s.heap.size)
  generalize hAe : va_A [(a0, .inl (k 0, 36, .inl (fun _ => 0)))] s.heap.size = A at hD ⊢
  have hA : ∀ q : Nat, s.heap.size ≤ q → A q := fun q h => by rw [← hAe]; exact Or.inr h
  have hS : va_S A s.heap s.heap [] := va_S.rf
  have hP : va_P D vwCl [(a0, .inl (k 0, 36, .inl (fun _ => 0)))] s.heap := hP
  have hl := lv_entry ([.ref a0, .int 0]) (n := 4) (Nat.le_of_ble_eq_true rfl)
  rw [lg_entry_eq]
  generalize (lg_sl ([.ref a0, .int 0]) ++ List.replicate (4 - (lg_sl ([.ref a0, .int 0])).length) Slot.unset).toArray = ls at hl ⊢
  have hl : lv_has ls 4 [(0, .ref a0), (1, .int 0)] := hl
  refine lv_iconst (v := 0) hx hb dJ7_fill_53178_0 (by decide) ?_
  refine lv_istore_n (lv' := [(2, .int 0), (0, .ref a0), (1, .int 0)]) hx hb dJ7_fill_53178_1 rfl hl (by decide) rfl (fun ls hl => ?_)
  refine lv_aload_n hx hb dJ7_fill_53178_2 rfl (lv_at hl 1 rfl) ?_
  refine va_alen (v := 36) hx hb hK hP 0 0 rfl rfl rfl dJ7_fill_53178_3 ?_
  refine lv_istore_n (lv' := [(3, .int 36), (2, .int 0), (0, .ref a0), (1, .int 0)]) hx hb dJ7_fill_53178_4 rfl hl (by decide) rfl (fun ls hl => ?_)
  refine g_loop 5 36 (fun i1 H locs ls => va_P D vwCl [(a0, .inl (k 0, 36, .inl (fun _ => 0)))] H ∧ va_D A [(a0, .inl (k 0, 36, .inl (fun _ => 0)))] ∧ va_S A s.heap H locs ∧ lv_has ls 4 [(2, .int (nI i1)), (3, .int 36), (0, .ref a0), (1, .int 0)]) [] ?_ ?_ 0 (Nat.zero_le _) _ _ _ ⟨hP, hD, hS, lv_sub hl [1, 0, 2, 3] rfl⟩
  · intro H locs ls hI
    obtain ⟨hP, hD, hS, hl⟩ := hI
    have hl : lv_has ls 4 [(2, .int 36), (3, .int 36), (0, .ref a0), (1, .int 0)] := hl
    refine lv_iload_n hx hb dJ7_fill_53178_5 rfl (lv_at hl 0 rfl) ?_
    refine lv_iload_n hx hb dJ7_fill_53178_6 rfl (lv_at hl 1 rfl) ?_
    refine lv_icmp_ge (tgt := 20) hx hb dJ7_fill_53178_7 (by decide) (fun _ => ?_) (fun h9 => absurd (by decide) h9)
    have hP := hP.sub (ws' := [(a0, .inl (k 0, 36, .inl (fun _ => 0)))]) [0] rfl
    have hD := hD.sub (ws' := [(a0, .inl (k 0, 36, .inl (fun _ => 0)))]) [0] (by decide) rfl
    exact g_vret hx hb hr hlocks hK (fun _ => 0) hP hD hS dJ7_fill_53178_20 ⟨Nat.le_of_ble_eq_true rfl, Nat.le_of_ble_eq_true rfl⟩
  · intro i1 hi1 ihi1 H locs ls hI
    obtain ⟨hP, hD, hS, hl⟩ := hI
    refine lv_iload_n hx hb dJ7_fill_53178_5 rfl (lv_at hl 0 rfl) ?_
    refine lv_iload_n hx hb dJ7_fill_53178_6 rfl (lv_at hl 1 rfl) ?_
    refine lv_icmp_ge (tgt := 20) hx hb dJ7_fill_53178_7 (by decide) (fun h9 => absurd h9 (fun z => absurd ((nI_leI (a := 36) (b := i1) (by omega) (by omega)).mp z) (by omega))) (fun _ => ?_)
    refine lv_aload_n hx hb dJ7_fill_53178_10 rfl (lv_at hl 2 rfl) ?_
    refine lv_iload_n hx hb dJ7_fill_53178_11 rfl (lv_at hl 0 rfl) ?_
    refine lv_iload_n hx hb dJ7_fill_53178_12 rfl (lv_at hl 3 rfl) ?_
    refine va_iast hx hb hK hP hD hS 0 0 rfl rfl (vp_in_nI (by omega) (by decide)) dJ7_fill_53178_13 (fun H locs hP hD hS => ?_)
    have e9 : (upd (fun _ => 0) ((nI i1) : Int32).toNatClampNeg 0 : Nat → Int32) = (fun _ => 0) := g_upd0 _
    have hP : va_P D vwCl [(a0, .inl (k 0, 36, .inl (fun _ => 0)))] H := by rw [e9] at hP; exact hP
    have hD : va_D A [(a0, .inl (k 0, 36, .inl (fun _ => 0)))] := by rw [e9] at hD; exact hD
    clear e9
    refine lv_iinc (v := (nI (i1 + 1))) (lv' := [(2, .int (nI (i1 + 1))), (3, .int 36), (0, .ref a0), (1, .int 0)]) hx hb dJ7_fill_53178_14 hl (k := 0) rfl (nI_1 i1) (by decide) rfl (fun ls hl => ?_)
    refine lv_goto (tgt := 5) hx hb dJ7_fill_53178_17 (by decide) ?_
    exact ihi1 _ _ _ ⟨hP, hD, hS, lv_sub hl [0, 1, 2, 3] rfl⟩
set_option maxHeartbeats 4000000 in
set_option maxRecDepth 100000 in
theorem cFill6 (l : Launch) (D : va_G) (k : Nat → ClassId) (a0 : Nat) : g_Cv l yJ7_fill_53178 wsJ7_fill_53178 ({ frames := 0, cells := 0, slots := 0, locals := 0 }) D k g_E0 [.ref a0, .int 0] [(a0, .inl (k 0, 6, .inl (fun _ => 0)))] (fun u => [(a0, .inl (k 0, 6, .inl (fun _ => 0)))]) 0 0 := by
  intro sz
  refine va_MetF (cc := cJ7_fill_53178) (maxL := 4) (ret := none) (by decide) rfl ?_
  intro p e s m args below meth c s₁ B hml hv
  obtain ⟨rfl, hsz, hP, hK, hD0, hE⟩ := hv
  have hx := B.exec
  have hb := B.bytes
  have hr := B.returns
  have hts := atoms_spec (ws := wsJ7_fill_53178) B.pre
  have hown : s.vm.findClass RJ7 = some m.cls := findClass_of_methodNamed B.named
  have hlocks := B.notSynchronized
  subst hsz
  have hD := hD0.self (sz := s.heap.size)
  generalize hAe : va_A [(a0, .inl (k 0, 6, .inl (fun _ => 0)))] s.heap.size = A at hD ⊢
  have hA : ∀ q : Nat, s.heap.size ≤ q → A q := fun q h => by rw [← hAe]; exact Or.inr h
  have hS : va_S A s.heap s.heap [] := va_S.rf
  have hP : va_P D vwCl [(a0, .inl (k 0, 6, .inl (fun _ => 0)))] s.heap := hP
  have hl := lv_entry ([.ref a0, .int 0]) (n := 4) (Nat.le_of_ble_eq_true rfl)
  rw [lg_entry_eq]
  generalize (lg_sl ([.ref a0, .int 0]) ++ List.replicate (4 - (lg_sl ([.ref a0, .int 0])).length) Slot.unset).toArray = ls at hl ⊢
  have hl : lv_has ls 4 [(0, .ref a0), (1, .int 0)] := hl
  refine lv_iconst (v := 0) hx hb dJ7_fill_53178_0 (by decide) ?_
  refine lv_istore_n (lv' := [(2, .int 0), (0, .ref a0), (1, .int 0)]) hx hb dJ7_fill_53178_1 rfl hl (by decide) rfl (fun ls hl => ?_)
  refine lv_aload_n hx hb dJ7_fill_53178_2 rfl (lv_at hl 1 rfl) ?_
  refine va_alen (v := 6) hx hb hK hP 0 0 rfl rfl rfl dJ7_fill_53178_3 ?_
  refine lv_istore_n (lv' := [(3, .int 6), (2, .int 0), (0, .ref a0), (1, .int 0)]) hx hb dJ7_fill_53178_4 rfl hl (by decide) rfl (fun ls hl => ?_)
  refine g_loop 5 6 (fun i1 H locs ls => va_P D vwCl [(a0, .inl (k 0, 6, .inl (fun _ => 0)))] H ∧ va_D A [(a0, .inl (k 0, 6, .inl (fun _ => 0)))] ∧ va_S A s.heap H locs ∧ lv_has ls 4 [(2, .int (nI i1)), (3, .int 6), (0, .ref a0), (1, .int 0)]) [] ?_ ?_ 0 (Nat.zero_le _) _ _ _ ⟨hP, hD, hS, lv_sub hl [1, 0, 2, 3] rfl⟩
  · intro H locs ls hI
    obtain ⟨hP, hD, hS, hl⟩ := hI
    have hl : lv_has ls 4 [(2, .int 6), (3, .int 6), (0, .ref a0), (1, .int 0)] := hl
    refine lv_iload_n hx hb dJ7_fill_53178_5 rfl (lv_at hl 0 rfl) ?_
    refine lv_iload_n hx hb dJ7_fill_53178_6 rfl (lv_at hl 1 rfl) ?_
    refine lv_icmp_ge (tgt := 20) hx hb dJ7_fill_53178_7 (by decide) (fun _ => ?_) (fun h9 => absurd (by decide) h9)
    have hP := hP.sub (ws' := [(a0, .inl (k 0, 6, .inl (fun _ => 0)))]) [0] rfl
    have hD := hD.sub (ws' := [(a0, .inl (k 0, 6, .inl (fun _ => 0)))]) [0] (by decide) rfl
    exact g_vret hx hb hr hlocks hK (fun _ => 0) hP hD hS dJ7_fill_53178_20 ⟨Nat.le_of_ble_eq_true rfl, Nat.le_of_ble_eq_true rfl⟩
  · intro i1 hi1 ihi1 H locs ls hI
    obtain ⟨hP, hD, hS, hl⟩ := hI
    refine lv_iload_n hx hb dJ7_fill_53178_5 rfl (lv_at hl 0 rfl) ?_
    refine lv_iload_n hx hb dJ7_fill_53178_6 rfl (lv_at hl 1 rfl) ?_
    refine lv_icmp_ge (tgt := 20) hx hb dJ7_fill_53178_7 (by decide) (fun h9 => absurd h9 (fun z => absurd ((nI_leI (a := 6) (b := i1) (by omega) (by omega)).mp z) (by omega))) (fun _ => ?_)
    refine lv_aload_n hx hb dJ7_fill_53178_10 rfl (lv_at hl 2 rfl) ?_
    refine lv_iload_n hx hb dJ7_fill_53178_11 rfl (lv_at hl 0 rfl) ?_
    refine lv_iload_n hx hb dJ7_fill_53178_12 rfl (lv_at hl 3 rfl) ?_
    refine va_iast hx hb hK hP hD hS 0 0 rfl rfl (vp_in_nI (by omega) (by decide)) dJ7_fill_53178_13 (fun H locs hP hD hS => ?_)
    have e9 : (upd (fun _ => 0) ((nI i1) : Int32).toNatClampNeg 0 : Nat → Int32) = (fun _ => 0) := g_upd0 _
    have hP : va_P D vwCl [(a0, .inl (k 0, 6, .inl (fun _ => 0)))] H := by rw [e9] at hP; exact hP
    have hD : va_D A [(a0, .inl (k 0, 6, .inl (fun _ => 0)))] := by rw [e9] at hD; exact hD
    clear e9
    refine lv_iinc (v := (nI (i1 + 1))) (lv' := [(2, .int (nI (i1 + 1))), (3, .int 6), (0, .ref a0), (1, .int 0)]) hx hb dJ7_fill_53178_14 hl (k := 0) rfl (nI_1 i1) (by decide) rfl (fun ls hl => ?_)
    refine lv_goto (tgt := 5) hx hb dJ7_fill_53178_17 (by decide) ?_
    exact ihi1 _ _ _ ⟨hP, hD, hS, lv_sub hl [0, 1, 2, 3] rfl⟩
set_option maxHeartbeats 4000000 in
set_option maxRecDepth 100000 in
theorem cD_clear (l : Launch) (D : va_G) (k : Nat → ClassId) (a8 : Nat) (a9 : Nat) (a10 : Nat) : g_Cv l yX1_clear wsX1_clear ({ frames := 1, cells := 0, slots := 0, locals := 23 }) D k g_E0 [.ref a8] [(a8, .inr (0, [.ref a9, .ref a10])), (a9, .inl (k 0, 36, .inl (fun _ => 0)))] (fun u => [(a8, .inr (0, [.ref a9, .ref a10])), (a9, .inl (k 0, 36, .inl (fun _ => 0)))]) 0 0 := by
  intro sz
  refine Met.ofW (cc := cX1_clear) (maxL := 1) (ret := none) (by decide) rfl ?_
  intro p e s m args below meth c s₁ B hml hv
  obtain ⟨rfl, hsz, hP, hK, hD0, hE⟩ := hv
  have hx := B.exec
  have hb := B.bytes
  have hr := B.returns
  have hts := atoms_spec (ws := wsX1_clear) B.pre
  have hown : s.vm.findClass RX1 = some m.cls := findClass_of_methodNamed B.named
  have hlocks := B.notSynchronized
  subst hsz
  have hD := hD0.self (sz := s.heap.size)
  generalize hAe : va_A [(a8, .inr (0, [.ref a9, .ref a10])), (a9, .inl (k 0, 36, .inl (fun _ => 0)))] s.heap.size = A at hD ⊢
  have hA : ∀ q : Nat, s.heap.size ≤ q → A q := fun q h => by rw [← hAe]; exact Or.inr h
  have hS : va_S A s.heap s.heap [] := va_S.rf
  have hP : va_P D vwCl [(a8, .inr (0, [.ref a9, .ref a10])), (a9, .inl (k 0, 36, .inl (fun _ => 0)))] s.heap := hP
  have hl := lv_entry ([.ref a8]) (n := 1) (Nat.le_of_ble_eq_true rfl)
  rw [lg_entry_eq]
  generalize (lg_sl ([.ref a8]) ++ List.replicate (1 - (lg_sl ([.ref a8])).length) Slot.unset).toArray = ls at hl ⊢
  have hl : lv_has ls 1 [(0, .ref a8)] := hl
  refine lv_aload_n hx hb dX1_clear_0 rfl (lv_at hl 0 rfl) ?_
  refine va_get (D := D) (ci := 0) (v := .ref a9) (C := RX1) (T := TX1) (N := 2) hx hb hts inX1_clear_X1 hown hK hP 0 rfl rfl 0 (by decide) (hts (.fieldLink RX1 9 "RungMoney$Debts" "rows" "[I") (by decide +kernel)) (fun _ h9 => h9) rfl dX1_clear_1 ?_
  refine lv_iconst (v := 0) hx hb dX1_clear_4 (by decide) ?_
  refine g_vS (As := [.ref a9, .int 0]) (rest := []) (wr := [(a8, .inr (0, [.ref a9, .ref a10]))]) ⟨hx, hb, hml, hown, hts⟩ (cFill36 l D k a9) (va_cwS 2 hts gX1_clear_J7_fill_53178 rfl rfl rfl (by decide +kernel) ⟨Nat.le_of_ble_eq_true rfl, Nat.le_of_ble_eq_true rfl⟩) g_E0_ok (fun _ _ _ => trivial) hK hP hD hS hA [1] [0] rfl rfl (by decide) rfl hl.1 rfl (Nat.le_of_ble_eq_true rfl) dX1_clear_5 ⟨Nat.le_of_ble_eq_true rfl, Nat.le_of_ble_eq_true rfl⟩ (fun u1 H locs hP hD hS => ?_)
  have hP : va_P D vwCl [(a8, .inr (0, [.ref a9, .ref a10])), (a9, .inl (k 0, 36, .inl (fun _ => 0)))] H := hP
  have hD : va_D A [(a8, .inr (0, [.ref a9, .ref a10])), (a9, .inl (k 0, 36, .inl (fun _ => 0)))] := hD
  have hP := hP.sub (ws' := [(a8, .inr (0, [.ref a9, .ref a10])), (a9, .inl (k 0, 36, .inl (fun _ => 0)))]) [0, 1] rfl
  have hD := hD.sub (ws' := [(a8, .inr (0, [.ref a9, .ref a10])), (a9, .inl (k 0, 36, .inl (fun _ => 0)))]) [0, 1] (by decide) rfl
  exact g_vret hx hb hr hlocks hK (fun _ => 0) hP hD hS dX1_clear_8 ⟨Nat.le_of_ble_eq_true rfl, Nat.le_of_ble_eq_true rfl⟩
set_option maxHeartbeats 4000000 in
set_option maxRecDepth 100000 in
theorem cD_copy (l : Launch) (D : va_G) (k : Nat → ClassId) (a8 : Nat) (a9 : Nat) (a10 : Nat) (b8 : Nat) (b9 : Nat) (b10 : Nat) : g_Cv l yX1_copy wsX1_copy ({ frames := 1, cells := 0, slots := 0, locals := 60 }) D k g_E0 [.ref a8, .ref b8] [(a8, .inr (0, [.ref a9, .ref a10])), (a9, .inl (k 0, 36, .inl (fun _ => 0))), (b8, .inr (0, [.ref b9, .ref b10])), (b9, .inl (k 0, 36, .inl (fun _ => 0)))] (fun u => [(a8, .inr (0, [.ref a9, .ref a10])), (a9, .inl (k 0, 36, .inl (fun _ => 0))), (b8, .inr (0, [.ref b9, .ref b10])), (b9, .inl (k 0, 36, .inl (fun _ => 0)))]) 0 0 := by
  intro sz
  refine Met.ofW (cc := cX1_copy) (maxL := 2) (ret := none) (by decide) rfl ?_
  intro p e s m args below meth c s₁ B hml hv
  obtain ⟨rfl, hsz, hP, hK, hD0, hE⟩ := hv
  have hx := B.exec
  have hb := B.bytes
  have hr := B.returns
  have hts := atoms_spec (ws := wsX1_copy) B.pre
  have hown : s.vm.findClass RX1 = some m.cls := findClass_of_methodNamed B.named
  have hlocks := B.notSynchronized
  subst hsz
  have hD := hD0.self (sz := s.heap.size)
  generalize hAe : va_A [(a8, .inr (0, [.ref a9, .ref a10])), (a9, .inl (k 0, 36, .inl (fun _ => 0))), (b8, .inr (0, [.ref b9, .ref b10])), (b9, .inl (k 0, 36, .inl (fun _ => 0)))] s.heap.size = A at hD ⊢
  have hA : ∀ q : Nat, s.heap.size ≤ q → A q := fun q h => by rw [← hAe]; exact Or.inr h
  have hS : va_S A s.heap s.heap [] := va_S.rf
  have hP : va_P D vwCl [(a8, .inr (0, [.ref a9, .ref a10])), (a9, .inl (k 0, 36, .inl (fun _ => 0))), (b8, .inr (0, [.ref b9, .ref b10])), (b9, .inl (k 0, 36, .inl (fun _ => 0)))] s.heap := hP
  have hl := lv_entry ([.ref a8, .ref b8]) (n := 2) (Nat.le_of_ble_eq_true rfl)
  rw [lg_entry_eq]
  generalize (lg_sl ([.ref a8, .ref b8]) ++ List.replicate (2 - (lg_sl ([.ref a8, .ref b8])).length) Slot.unset).toArray = ls at hl ⊢
  have hl : lv_has ls 2 [(0, .ref a8), (1, .ref b8)] := hl
  refine lv_aload_n hx hb dX1_copy_0 rfl (lv_at hl 1 rfl) ?_
  refine va_get (D := D) (ci := 0) (v := .ref b9) (C := RX1) (T := TX1) (N := 2) hx hb hts inX1_copy_X1 hown hK hP 2 rfl rfl 0 (by decide) (hts (.fieldLink RX1 9 "RungMoney$Debts" "rows" "[I") (by decide +kernel)) (fun _ h9 => h9) rfl dX1_copy_1 ?_
  refine lv_iconst (v := 0) hx hb dX1_copy_4 (by decide) ?_
  refine lv_aload_n hx hb dX1_copy_5 rfl (lv_at hl 0 rfl) ?_
  refine va_get (D := D) (ci := 0) (v := .ref a9) (C := RX1) (T := TX1) (N := 2) hx hb hts inX1_copy_X1 hown hK hP 0 rfl rfl 0 (by decide) (hts (.fieldLink RX1 9 "RungMoney$Debts" "rows" "[I") (by decide +kernel)) (fun _ h9 => h9) rfl dX1_copy_6 ?_
  refine lv_iconst (v := 0) hx hb dX1_copy_9 (by decide) ?_
  refine lv_aload_n hx hb dX1_copy_10 rfl (lv_at hl 0 rfl) ?_
  refine va_get (D := D) (ci := 0) (v := .ref a9) (C := RX1) (T := TX1) (N := 2) hx hb hts inX1_copy_X1 hown hK hP 0 rfl rfl 0 (by decide) (hts (.fieldLink RX1 9 "RungMoney$Debts" "rows" "[I") (by decide +kernel)) (fun _ h9 => h9) rfl dX1_copy_11 ?_
  refine va_alen (v := 36) hx hb hK hP 1 0 rfl rfl rfl dX1_copy_14 ?_
  refine va_copyi hx hb (by rw [hml]; exact hl.1.symm) hown (hts (.methodLink RX1 24 arraycopyName) (by decide +kernel)) (hts (.native arraycopyName) (by decide +kernel)) (hts (.static arraycopyName) (by decide +kernel)) (hts (.initialized "java/lang/System") (by decide +kernel)) hK hP hD hS 3 1 0 0 rfl rfl rfl rfl rfl (by decide) (by decide) (by decide) (by decide) (by decide) (fun _ _ => rfl) (Nat.le_of_ble_eq_true rfl) (by decide +kernel) dX1_copy_15 (fun H locs hP hD hS => ?_)
  have hP : va_P D vwCl [(a8, .inr (0, [.ref a9, .ref a10])), (a9, .inl (k 0, 36, .inl (fun _ => 0))), (b8, .inr (0, [.ref b9, .ref b10])), (b9, .inl (k 0, 36, .inl (fun _ => 0)))] H := by rw [g_cpy0] at hP; exact hP
  have hD : va_D A [(a8, .inr (0, [.ref a9, .ref a10])), (a9, .inl (k 0, 36, .inl (fun _ => 0))), (b8, .inr (0, [.ref b9, .ref b10])), (b9, .inl (k 0, 36, .inl (fun _ => 0)))] := by rw [g_cpy0] at hD; exact hD
  have hP := hP.sub (ws' := [(a8, .inr (0, [.ref a9, .ref a10])), (a9, .inl (k 0, 36, .inl (fun _ => 0))), (b8, .inr (0, [.ref b9, .ref b10])), (b9, .inl (k 0, 36, .inl (fun _ => 0)))]) [0, 1, 2, 3] rfl
  have hD := hD.sub (ws' := [(a8, .inr (0, [.ref a9, .ref a10])), (a9, .inl (k 0, 36, .inl (fun _ => 0))), (b8, .inr (0, [.ref b9, .ref b10])), (b9, .inl (k 0, 36, .inl (fun _ => 0)))]) [0, 1, 2, 3] (by decide) rfl
  exact g_vret hx hb hr hlocks hK (fun _ => 0) hP hD hS dX1_copy_18 ⟨Nat.le_of_ble_eq_true rfl, Nat.le_of_ble_eq_true rfl⟩
set_option maxHeartbeats 4000000 in
set_option maxRecDepth 100000 in
theorem cD_same (l : Launch) (D : va_G) (k : Nat → ClassId) (a8 : Nat) (a9 : Nat) (a10 : Nat) (b8 : Nat) (b9 : Nat) (b10 : Nat) : g_Ci l yX1_same wsX1_same ({ frames := 0, cells := 0, slots := 0, locals := 0 }) D k g_E0 [.ref a8, .ref b8] [(a8, .inr (0, [.ref a9, .ref a10])), (a9, .inl (k 0, 36, .inl (fun _ => 0))), (b8, .inr (0, [.ref b9, .ref b10])), (b9, .inl (k 0, 36, .inl (fun _ => 0)))] 1 (fun u => [(a8, .inr (0, [.ref a9, .ref a10])), (a9, .inl (k 0, 36, .inl (fun _ => 0))), (b8, .inr (0, [.ref b9, .ref b10])), (b9, .inl (k 0, 36, .inl (fun _ => 0)))]) 0 0 := by
  intro sz
  refine Met.ofW (cc := cX1_same) (maxL := 3) (ret := (some .boolean)) (by decide) rfl ?_
  intro p e s m args below meth c s₁ B hml hv
  obtain ⟨rfl, hsz, hP, hK, hD0, hE⟩ := hv
  have hx := B.exec
  have hb := B.bytes
  have hr := B.returns
  have hts := atoms_spec (ws := wsX1_same) B.pre
  have hown : s.vm.findClass RX1 = some m.cls := findClass_of_methodNamed B.named
  have hlocks := B.notSynchronized
  subst hsz
  have hD := hD0.self (sz := s.heap.size)
  generalize hAe : va_A [(a8, .inr (0, [.ref a9, .ref a10])), (a9, .inl (k 0, 36, .inl (fun _ => 0))), (b8, .inr (0, [.ref b9, .ref b10])), (b9, .inl (k 0, 36, .inl (fun _ => 0)))] s.heap.size = A at hD ⊢
  have hA : ∀ q : Nat, s.heap.size ≤ q → A q := fun q h => by rw [← hAe]; exact Or.inr h
  have hS : va_S A s.heap s.heap [] := va_S.rf
  have hP : va_P D vwCl [(a8, .inr (0, [.ref a9, .ref a10])), (a9, .inl (k 0, 36, .inl (fun _ => 0))), (b8, .inr (0, [.ref b9, .ref b10])), (b9, .inl (k 0, 36, .inl (fun _ => 0)))] s.heap := hP
  have hl := lv_entry ([.ref a8, .ref b8]) (n := 3) (Nat.le_of_ble_eq_true rfl)
  rw [lg_entry_eq]
  generalize (lg_sl ([.ref a8, .ref b8]) ++ List.replicate (3 - (lg_sl ([.ref a8, .ref b8])).length) Slot.unset).toArray = ls at hl ⊢
  have hl : lv_has ls 3 [(0, .ref a8), (1, .ref b8)] := hl
  refine lv_iconst (v := 0) hx hb dX1_same_0 (by decide) ?_
  refine lv_istore_n (lv' := [(2, .int 0), (0, .ref a8), (1, .ref b8)]) hx hb dX1_same_1 rfl hl (by decide) rfl (fun ls hl => ?_)
  refine g_loop 2 36 (fun i1 H locs ls => va_P D vwCl [(a8, .inr (0, [.ref a9, .ref a10])), (a9, .inl (k 0, 36, .inl (fun _ => 0))), (b8, .inr (0, [.ref b9, .ref b10])), (b9, .inl (k 0, 36, .inl (fun _ => 0)))] H ∧ va_D A [(a8, .inr (0, [.ref a9, .ref a10])), (a9, .inl (k 0, 36, .inl (fun _ => 0))), (b8, .inr (0, [.ref b9, .ref b10])), (b9, .inl (k 0, 36, .inl (fun _ => 0)))] ∧ va_S A s.heap H locs ∧ lv_has ls 3 [(2, .int (nI i1)), (0, .ref a8), (1, .ref b8)]) [] ?_ ?_ 0 (Nat.zero_le _) _ _ _ ⟨hP, hD, hS, lv_sub hl [0, 1, 2] rfl⟩
  · intro H locs ls hI
    obtain ⟨hP, hD, hS, hl⟩ := hI
    have hl : lv_has ls 3 [(2, .int 36), (0, .ref a8), (1, .ref b8)] := hl
    refine lv_iload_n hx hb dX1_same_2 rfl (lv_at hl 0 rfl) ?_
    refine lv_aload_n hx hb dX1_same_3 rfl (lv_at hl 1 rfl) ?_
    refine va_get (D := D) (ci := 0) (v := .ref a9) (C := RX1) (T := TX1) (N := 2) hx hb hts inX1_same_X1 hown hK hP 0 rfl rfl 0 (by decide) (hts (.fieldLink RX1 9 "RungMoney$Debts" "rows" "[I") (by decide +kernel)) (fun _ h9 => h9) rfl dX1_same_4 ?_
    refine va_alen (v := 36) hx hb hK hP 1 0 rfl rfl rfl dX1_same_7 ?_
    refine lv_icmp_ge (tgt := 34) hx hb dX1_same_8 (by decide) (fun _ => ?_) (fun h9 => absurd (by decide) h9)
    refine lv_iconst (v := 1) hx hb dX1_same_34 (by decide) ?_
    have hP := hP.sub (ws' := [(a8, .inr (0, [.ref a9, .ref a10])), (a9, .inl (k 0, 36, .inl (fun _ => 0))), (b8, .inr (0, [.ref b9, .ref b10])), (b9, .inl (k 0, 36, .inl (fun _ => 0)))]) [0, 1, 2, 3] rfl
    have hD := hD.sub (ws' := [(a8, .inr (0, [.ref a9, .ref a10])), (a9, .inl (k 0, 36, .inl (fun _ => 0))), (b8, .inr (0, [.ref b9, .ref b10])), (b9, .inl (k 0, 36, .inl (fun _ => 0)))]) [0, 1, 2, 3] (by decide) rfl
    exact g_iret hx hb hr rfl hlocks hK (fun _ => 0) hP hD hS rfl dX1_same_35 ⟨Nat.le_of_ble_eq_true rfl, Nat.le_of_ble_eq_true rfl⟩
  · intro i1 hi1 ihi1 H locs ls hI
    obtain ⟨hP, hD, hS, hl⟩ := hI
    refine lv_iload_n hx hb dX1_same_2 rfl (lv_at hl 0 rfl) ?_
    refine lv_aload_n hx hb dX1_same_3 rfl (lv_at hl 1 rfl) ?_
    refine va_get (D := D) (ci := 0) (v := .ref a9) (C := RX1) (T := TX1) (N := 2) hx hb hts inX1_same_X1 hown hK hP 0 rfl rfl 0 (by decide) (hts (.fieldLink RX1 9 "RungMoney$Debts" "rows" "[I") (by decide +kernel)) (fun _ h9 => h9) rfl dX1_same_4 ?_
    refine va_alen (v := 36) hx hb hK hP 1 0 rfl rfl rfl dX1_same_7 ?_
    refine lv_icmp_ge (tgt := 34) hx hb dX1_same_8 (by decide) (fun h9 => absurd h9 (fun z => absurd ((nI_leI (a := 36) (b := i1) (by omega) (by omega)).mp z) (by omega))) (fun _ => ?_)
    refine lv_aload_n hx hb dX1_same_11 rfl (lv_at hl 1 rfl) ?_
    refine va_get (D := D) (ci := 0) (v := .ref a9) (C := RX1) (T := TX1) (N := 2) hx hb hts inX1_same_X1 hown hK hP 0 rfl rfl 0 (by decide) (hts (.fieldLink RX1 9 "RungMoney$Debts" "rows" "[I") (by decide +kernel)) (fun _ h9 => h9) rfl dX1_same_12 ?_
    refine lv_iload_n hx hb dX1_same_15 rfl (lv_at hl 0 rfl) ?_
    refine va_iald hx hb hK hP 1 0 rfl rfl (vp_in_nI (by omega) (by decide)) dX1_same_16 ?_
    refine lv_topi (fun x2 ex2 => ?_)
    obtain rfl : x2 = 0 := ex2.trans rfl
    refine lv_aload_n hx hb dX1_same_17 rfl (lv_at hl 2 rfl) ?_
    refine va_get (D := D) (ci := 0) (v := .ref b9) (C := RX1) (T := TX1) (N := 2) hx hb hts inX1_same_X1 hown hK hP 2 rfl rfl 0 (by decide) (hts (.fieldLink RX1 9 "RungMoney$Debts" "rows" "[I") (by decide +kernel)) (fun _ h9 => h9) rfl dX1_same_18 ?_
    refine lv_iload_n hx hb dX1_same_21 rfl (lv_at hl 0 rfl) ?_
    refine va_iald hx hb hK hP 3 0 rfl rfl (vp_in_nI (by omega) (by decide)) dX1_same_22 ?_
    refine lv_topi (fun x3 ex3 => ?_)
    obtain rfl : x3 = 0 := ex3.trans rfl
    refine lv_icmp_eq (tgt := 28) hx hb dX1_same_23 (by decide) (fun _ => ?_) (fun h9 => absurd (by decide) h9)
    refine lv_iinc (v := (nI (i1 + 1))) (lv' := [(2, .int (nI (i1 + 1))), (0, .ref a8), (1, .ref b8)]) hx hb dX1_same_28 hl (k := 0) rfl (nI_1 i1) (by decide) rfl (fun ls hl => ?_)
    refine lv_goto (tgt := 2) hx hb dX1_same_31 (by decide) ?_
    exact ihi1 _ _ _ ⟨hP, hD, hS, lv_sub hl [0, 1, 2] rfl⟩
set_option maxHeartbeats 4000000 in
set_option maxRecDepth 100000 in
theorem cD_isPair (l : Launch) (D : va_G) (k : Nat → ClassId) (i : Nat) (j : Nat) (hi : i < 6) (hj : j < 6) : g_Ci l yX1_isPair wsX1_isPair ({ frames := 0, cells := 0, slots := 0, locals := 0 }) D k g_E0 [.int (nI i), .int (nI j)] [] 1 (fun u => []) 0 0 := by
  intro sz
  refine Met.ofW (cc := cX1_isPair) (maxL := 2) (ret := (some .boolean)) (by decide) rfl ?_
  intro p e s m args below meth c s₁ B hml hv
  obtain ⟨rfl, hsz, hP, hK, hD0, hE⟩ := hv
  have hx := B.exec
  have hb := B.bytes
  have hr := B.returns
  have hts := atoms_spec (ws := wsX1_isPair) B.pre
  have hown : s.vm.findClass RX1 = some m.cls := findClass_of_methodNamed B.named
  have hlocks := B.notSynchronized
  subst hsz
  have hD := hD0.self (sz := s.heap.size)
  generalize hAe : va_A [] s.heap.size = A at hD ⊢
  have hA : ∀ q : Nat, s.heap.size ≤ q → A q := fun q h => by rw [← hAe]; exact Or.inr h
  have hS : va_S A s.heap s.heap [] := va_S.rf
  have hP : va_P D vwCl [] s.heap := hP
  have hl := lv_entry ([.int (nI i), .int (nI j)]) (n := 2) (Nat.le_of_ble_eq_true rfl)
  rw [lg_entry_eq]
  generalize (lg_sl ([.int (nI i), .int (nI j)]) ++ List.replicate (2 - (lg_sl ([.int (nI i), .int (nI j)])).length) Slot.unset).toArray = ls at hl ⊢
  have hl : lv_has ls 2 [(0, .int (nI i)), (1, .int (nI j))] := hl
  refine lv_iload_n hx hb dX1_isPair_0 rfl (lv_at hl 0 rfl) ?_
  refine lv_if_lt (tgt := 24) hx hb dX1_isPair_1 (by decide) (fun h9 => absurd h9 (fun z => absurd ((nI_ltI (a := i) (b := 0) (by omega) (by omega)).mp z) (by omega))) (fun _ => ?_)
  refine lv_iload_n hx hb dX1_isPair_4 rfl (lv_at hl 0 rfl) ?_
  refine lv_bipush (v := 6) hx hb dX1_isPair_5 (by decide) ?_
  refine lv_icmp_ge (tgt := 24) hx hb dX1_isPair_7 (by decide) (fun h9 => absurd h9 (fun z => absurd ((nI_leI (a := 6) (b := i) (by omega) (by omega)).mp z) (by omega))) (fun _ => ?_)
  refine lv_iload_n hx hb dX1_isPair_10 rfl (lv_at hl 1 rfl) ?_
  refine lv_if_lt (tgt := 24) hx hb dX1_isPair_11 (by decide) (fun h9 => absurd h9 (fun z => absurd ((nI_ltI (a := j) (b := 0) (by omega) (by omega)).mp z) (by omega))) (fun _ => ?_)
  refine lv_iload_n hx hb dX1_isPair_14 rfl (lv_at hl 1 rfl) ?_
  refine lv_bipush (v := 6) hx hb dX1_isPair_15 (by decide) ?_
  refine lv_icmp_ge (tgt := 24) hx hb dX1_isPair_17 (by decide) (fun h9 => absurd h9 (fun z => absurd ((nI_leI (a := 6) (b := j) (by omega) (by omega)).mp z) (by omega))) (fun _ => ?_)
  refine lv_iconst (v := 1) hx hb dX1_isPair_20 (by decide) ?_
  refine lv_goto (tgt := 25) hx hb dX1_isPair_21 (by decide) ?_
  have hP := hP.sub (ws' := []) [] rfl
  have hD := hD.sub (ws' := []) [] (by decide) rfl
  exact g_iret hx hb hr rfl hlocks hK (fun _ => 0) hP hD hS rfl dX1_isPair_25 ⟨Nat.le_of_ble_eq_true rfl, Nat.le_of_ble_eq_true rfl⟩
set_option maxHeartbeats 4000000 in
set_option maxRecDepth 100000 in
theorem cD_of (l : Launch) (D : va_G) (k : Nat → ClassId) (a8 : Nat) (a9 : Nat) (a10 : Nat) (i : Nat) (j : Nat) (hi : i < 6) (hj : j < 6) : g_Ci l yX1_of wsX1_of ({ frames := 1, cells := 0, slots := 0, locals := 21 }) D k g_E0 [.ref a8, .int (nI i), .int (nI j)] [(a8, .inr (0, [.ref a9, .ref a10])), (a9, .inl (k 0, 36, .inl (fun _ => 0)))] 0 (fun u => [(a8, .inr (0, [.ref a9, .ref a10])), (a9, .inl (k 0, 36, .inl (fun _ => 0)))]) 0 0 := by
  intro sz
  refine Met.ofW (cc := cX1_of) (maxL := 3) (ret := (some .int)) (by decide) rfl ?_
  intro p e s m args below meth c s₁ B hml hv
  obtain ⟨rfl, hsz, hP, hK, hD0, hE⟩ := hv
  have hx := B.exec
  have hb := B.bytes
  have hr := B.returns
  have hts := atoms_spec (ws := wsX1_of) B.pre
  have hown : s.vm.findClass RX1 = some m.cls := findClass_of_methodNamed B.named
  have hlocks := B.notSynchronized
  subst hsz
  have hD := hD0.self (sz := s.heap.size)
  generalize hAe : va_A [(a8, .inr (0, [.ref a9, .ref a10])), (a9, .inl (k 0, 36, .inl (fun _ => 0)))] s.heap.size = A at hD ⊢
  have hA : ∀ q : Nat, s.heap.size ≤ q → A q := fun q h => by rw [← hAe]; exact Or.inr h
  have hS : va_S A s.heap s.heap [] := va_S.rf
  have hP : va_P D vwCl [(a8, .inr (0, [.ref a9, .ref a10])), (a9, .inl (k 0, 36, .inl (fun _ => 0)))] s.heap := hP
  have hl := lv_entry ([.ref a8, .int (nI i), .int (nI j)]) (n := 3) (Nat.le_of_ble_eq_true rfl)
  rw [lg_entry_eq]
  generalize (lg_sl ([.ref a8, .int (nI i), .int (nI j)]) ++ List.replicate (3 - (lg_sl ([.ref a8, .int (nI i), .int (nI j)])).length) Slot.unset).toArray = ls at hl ⊢
  have hl : lv_has ls 3 [(0, .ref a8), (1, .int (nI i)), (2, .int (nI j))] := hl
  refine lv_iload_n hx hb dX1_of_0 rfl (lv_at hl 1 rfl) ?_
  refine lv_iload_n hx hb dX1_of_1 rfl (lv_at hl 2 rfl) ?_
  refine g_iS (As := [.int (nI i), .int (nI j)]) (rest := []) (wr := [(a8, .inr (0, [.ref a9, .ref a10])), (a9, .inl (k 0, 36, .inl (fun _ => 0)))]) ⟨hx, hb, hml, hown, hts⟩ (cD_isPair l D k i j (by omega) (by omega)) (va_cwS 2 hts gX1_of_X1_isPair rfl rfl rfl (by decide +kernel) ⟨Nat.le_of_ble_eq_true rfl, Nat.le_of_ble_eq_true rfl⟩) g_E0_ok (fun _ _ _ => trivial) hK hP hD hS hA [] [0, 1] rfl rfl (by decide) rfl hl.1 rfl (Nat.le_of_ble_eq_true rfl) dX1_of_2 ⟨Nat.le_of_ble_eq_true rfl, Nat.le_of_ble_eq_true rfl⟩ (fun u1 H locs hP hD hS => ?_)
  have hP : va_P D vwCl [(a8, .inr (0, [.ref a9, .ref a10])), (a9, .inl (k 0, 36, .inl (fun _ => 0)))] H := hP
  have hD : va_D A [(a8, .inr (0, [.ref a9, .ref a10])), (a9, .inl (k 0, 36, .inl (fun _ => 0)))] := hD
  refine lv_if_eq (tgt := 22) hx hb dX1_of_5 (by decide) (fun h9 => absurd h9 (by decide)) (fun _ => ?_)
  refine lv_aload_n hx hb dX1_of_8 rfl (lv_at hl 0 rfl) ?_
  refine va_get (D := D) (ci := 0) (v := .ref a9) (C := RX1) (T := TX1) (N := 2) hx hb hts inX1_of_X1 hown hK hP 0 rfl rfl 0 (by decide) (hts (.fieldLink RX1 9 "RungMoney$Debts" "rows" "[I") (by decide +kernel)) (fun _ h9 => h9) rfl dX1_of_9 ?_
  refine lv_iload_n hx hb dX1_of_12 rfl (lv_at hl 1 rfl) ?_
  refine lv_bipush (v := 6) hx hb dX1_of_13 (by decide) ?_
  refine lv_imul hx hb dX1_of_15 ?_
  refine lv_topi (fun x2 ex2 => ?_)
  obtain rfl : x2 = (nI (i * 6)) := ex2.trans (pk_mul i 6)
  refine lv_iload_n hx hb dX1_of_16 rfl (lv_at hl 2 rfl) ?_
  refine lv_iadd hx hb dX1_of_17 ?_
  refine lv_topi (fun x3 ex3 => ?_)
  obtain rfl : x3 = (nI ((i * 6) + j)) := ex3.trans (nI_add (i * 6) j)
  refine va_iald hx hb hK hP 1 0 rfl rfl (vp_in_nI (by omega) (by decide)) dX1_of_18 ?_
  refine lv_topi (fun x4 ex4 => ?_)
  obtain rfl : x4 = 0 := ex4.trans rfl
  refine lv_goto (tgt := 23) hx hb dX1_of_19 (by decide) ?_
  have hP := hP.sub (ws' := [(a8, .inr (0, [.ref a9, .ref a10])), (a9, .inl (k 0, 36, .inl (fun _ => 0)))]) [0, 1] rfl
  have hD := hD.sub (ws' := [(a8, .inr (0, [.ref a9, .ref a10])), (a9, .inl (k 0, 36, .inl (fun _ => 0)))]) [0, 1] (by decide) rfl
  exact g_iret hx hb hr rfl hlocks hK (fun _ => 0) hP hD hS rfl dX1_of_23 ⟨Nat.le_of_ble_eq_true rfl, Nat.le_of_ble_eq_true rfl⟩
set_option maxHeartbeats 4000000 in
set_option maxRecDepth 100000 in
theorem cD_owes (l : Launch) (D : va_G) (k : Nat → ClassId) (a8 : Nat) (a9 : Nat) (a10 : Nat) (i : Nat) (hi : i < 6) : g_Ci l yX1_owes wsX1_owes ({ frames := 2, cells := 0, slots := 0, locals := 43 }) D k g_E0 [.ref a8, .int (nI i)] [(a8, .inr (0, [.ref a9, .ref a10])), (a9, .inl (k 0, 36, .inl (fun _ => 0)))] 0 (fun u => [(a8, .inr (0, [.ref a9, .ref a10])), (a9, .inl (k 0, 36, .inl (fun _ => 0)))]) 0 0 := by
  intro sz
  refine Met.ofW (cc := cX1_owes) (maxL := 4) (ret := (some .int)) (by decide) rfl ?_
  intro p e s m args below meth c s₁ B hml hv
  obtain ⟨rfl, hsz, hP, hK, hD0, hE⟩ := hv
  have hx := B.exec
  have hb := B.bytes
  have hr := B.returns
  have hts := atoms_spec (ws := wsX1_owes) B.pre
  have hown : s.vm.findClass RX1 = some m.cls := findClass_of_methodNamed B.named
  have hlocks := B.notSynchronized
  subst hsz
  have hD := hD0.self (sz := s.heap.size)
  generalize hAe : va_A [(a8, .inr (0, [.ref a9, .ref a10])), (a9, .inl (k 0, 36, .inl (fun _ => 0)))] s.heap.size = A at hD ⊢
  have hA : ∀ q : Nat, s.heap.size ≤ q → A q := fun q h => by rw [← hAe]; exact Or.inr h
  have hS : va_S A s.heap s.heap [] := va_S.rf
  have hP : va_P D vwCl [(a8, .inr (0, [.ref a9, .ref a10])), (a9, .inl (k 0, 36, .inl (fun _ => 0)))] s.heap := hP
  have hl := lv_entry ([.ref a8, .int (nI i)]) (n := 4) (Nat.le_of_ble_eq_true rfl)
  rw [lg_entry_eq]
  generalize (lg_sl ([.ref a8, .int (nI i)]) ++ List.replicate (4 - (lg_sl ([.ref a8, .int (nI i)])).length) Slot.unset).toArray = ls at hl ⊢
  have hl : lv_has ls 4 [(0, .ref a8), (1, .int (nI i))] := hl
  refine lv_iconst (v := 0) hx hb dX1_owes_0 (by decide) ?_
  refine lv_istore_n (lv' := [(2, .int 0), (0, .ref a8), (1, .int (nI i))]) hx hb dX1_owes_1 rfl hl (by decide) rfl (fun ls hl => ?_)
  refine lv_iconst (v := 0) hx hb dX1_owes_2 (by decide) ?_
  refine lv_istore_n (lv' := [(3, .int 0), (2, .int 0), (0, .ref a8), (1, .int (nI i))]) hx hb dX1_owes_3 rfl hl (by decide) rfl (fun ls hl => ?_)
  refine g_loop 4 6 (fun i1 H locs ls => va_P D vwCl [(a8, .inr (0, [.ref a9, .ref a10])), (a9, .inl (k 0, 36, .inl (fun _ => 0)))] H ∧ va_D A [(a8, .inr (0, [.ref a9, .ref a10])), (a9, .inl (k 0, 36, .inl (fun _ => 0)))] ∧ va_S A s.heap H locs ∧ lv_has ls 4 [(3, .int (nI i1)), (2, .int 0), (0, .ref a8), (1, .int (nI i))]) [] ?_ ?_ 0 (Nat.zero_le _) _ _ _ ⟨hP, hD, hS, lv_sub hl [0, 1, 2, 3] rfl⟩
  · intro H locs ls hI
    obtain ⟨hP, hD, hS, hl⟩ := hI
    have hl : lv_has ls 4 [(3, .int 6), (2, .int 0), (0, .ref a8), (1, .int (nI i))] := hl
    refine lv_iload_n hx hb dX1_owes_4 rfl (lv_at hl 0 rfl) ?_
    refine lv_bipush (v := 6) hx hb dX1_owes_5 (by decide) ?_
    refine lv_icmp_ge (tgt := 25) hx hb dX1_owes_7 (by decide) (fun _ => ?_) (fun h9 => absurd (by decide) h9)
    refine lv_iload_n hx hb dX1_owes_25 rfl (lv_at hl 1 rfl) ?_
    have hP := hP.sub (ws' := [(a8, .inr (0, [.ref a9, .ref a10])), (a9, .inl (k 0, 36, .inl (fun _ => 0)))]) [0, 1] rfl
    have hD := hD.sub (ws' := [(a8, .inr (0, [.ref a9, .ref a10])), (a9, .inl (k 0, 36, .inl (fun _ => 0)))]) [0, 1] (by decide) rfl
    exact g_iret hx hb hr rfl hlocks hK (fun _ => 0) hP hD hS rfl dX1_owes_26 ⟨Nat.le_of_ble_eq_true rfl, Nat.le_of_ble_eq_true rfl⟩
  · intro i1 hi1 ihi1 H locs ls hI
    obtain ⟨hP, hD, hS, hl⟩ := hI
    refine lv_iload_n hx hb dX1_owes_4 rfl (lv_at hl 0 rfl) ?_
    refine lv_bipush (v := 6) hx hb dX1_owes_5 (by decide) ?_
    refine lv_icmp_ge (tgt := 25) hx hb dX1_owes_7 (by decide) (fun h9 => absurd h9 (fun z => absurd ((nI_leI (a := 6) (b := i1) (by omega) (by omega)).mp z) (by omega))) (fun _ => ?_)
    refine lv_iload_n hx hb dX1_owes_10 rfl (lv_at hl 1 rfl) ?_
    refine lv_aload_n hx hb dX1_owes_11 rfl (lv_at hl 2 rfl) ?_
    refine lv_iload_n hx hb dX1_owes_12 rfl (lv_at hl 3 rfl) ?_
    refine lv_iload_n hx hb dX1_owes_13 rfl (lv_at hl 0 rfl) ?_
    refine g_iV (As := [.int (nI i), .int (nI i1)]) (rest := [.int 0]) (wr := []) ⟨hx, hb, hml, hown, hts⟩ (cD_of l D k a8 a9 a10 i i1 (by omega) (by omega)) (cwV 2 hts gX1_owes_X1_of rfl rfl rfl (by decide +kernel) ⟨Nat.le_of_ble_eq_true rfl, Nat.le_of_ble_eq_true rfl⟩) g_E0_ok (fun _ _ _ => trivial) hK hP hD hS hA 0 0 rfl rfl rfl [0, 1] [] rfl rfl (by decide) rfl hl.1 rfl (Nat.le_of_ble_eq_true rfl) dX1_owes_14 ⟨Nat.le_of_ble_eq_true rfl, Nat.le_of_ble_eq_true rfl⟩ (fun u2 H locs hP hD hS => ?_)
    have hP : va_P D vwCl [(a8, .inr (0, [.ref a9, .ref a10])), (a9, .inl (k 0, 36, .inl (fun _ => 0)))] H := hP
    have hD : va_D A [(a8, .inr (0, [.ref a9, .ref a10])), (a9, .inl (k 0, 36, .inl (fun _ => 0)))] := hD
    refine lv_iadd hx hb dX1_owes_17 ?_
    refine lv_topi (fun x3 ex3 => ?_)
    obtain rfl : x3 = 0 := ex3.trans (by decide)
    refine lv_istore_n (lv' := [(2, .int 0), (3, .int (nI i1)), (0, .ref a8), (1, .int (nI i))]) hx hb dX1_owes_18 rfl hl (by decide) rfl (fun ls hl => ?_)
    refine lv_iinc (v := (nI (i1 + 1))) (lv' := [(3, .int (nI (i1 + 1))), (2, .int 0), (0, .ref a8), (1, .int (nI i))]) hx hb dX1_owes_19 hl (k := 1) rfl (nI_1 i1) (by decide) rfl (fun ls hl => ?_)
    refine lv_goto (tgt := 4) hx hb dX1_owes_22 (by decide) ?_
    exact ihi1 _ _ _ ⟨hP, hD, hS, lv_sub hl [0, 1, 2, 3] rfl⟩
set_option maxHeartbeats 4000000 in
set_option maxRecDepth 100000 in
theorem cD_owedWithout (l : Launch) (D : va_G) (k : Nat → ClassId) (a8 : Nat) (a9 : Nat) (a10 : Nat) (i : Nat) (hi : i < 6) : g_Ci l yX1_owedWithout wsX1_owedWithout ({ frames := 2, cells := 0, slots := 0, locals := 43 }) D k g_E0 [.ref a8, .int (nI i), .int 0] [(a8, .inr (0, [.ref a9, .ref a10])), (a9, .inl (k 0, 36, .inl (fun _ => 0)))] 0 (fun u => [(a8, .inr (0, [.ref a9, .ref a10])), (a9, .inl (k 0, 36, .inl (fun _ => 0)))]) 0 0 := by
  intro sz
  refine Met.ofW (cc := cX1_owedWithout) (maxL := 5) (ret := (some .int)) (by decide) rfl ?_
  intro p e s m args below meth c s₁ B hml hv
  obtain ⟨rfl, hsz, hP, hK, hD0, hE⟩ := hv
  have hx := B.exec
  have hb := B.bytes
  have hr := B.returns
  have hts := atoms_spec (ws := wsX1_owedWithout) B.pre
  have hown : s.vm.findClass RX1 = some m.cls := findClass_of_methodNamed B.named
  have hlocks := B.notSynchronized
  subst hsz
  have hD := hD0.self (sz := s.heap.size)
  generalize hAe : va_A [(a8, .inr (0, [.ref a9, .ref a10])), (a9, .inl (k 0, 36, .inl (fun _ => 0)))] s.heap.size = A at hD ⊢
  have hA : ∀ q : Nat, s.heap.size ≤ q → A q := fun q h => by rw [← hAe]; exact Or.inr h
  have hS : va_S A s.heap s.heap [] := va_S.rf
  have hP : va_P D vwCl [(a8, .inr (0, [.ref a9, .ref a10])), (a9, .inl (k 0, 36, .inl (fun _ => 0)))] s.heap := hP
  have hl := lv_entry ([.ref a8, .int (nI i), .int 0]) (n := 5) (Nat.le_of_ble_eq_true rfl)
  rw [lg_entry_eq]
  generalize (lg_sl ([.ref a8, .int (nI i), .int 0]) ++ List.replicate (5 - (lg_sl ([.ref a8, .int (nI i), .int 0])).length) Slot.unset).toArray = ls at hl ⊢
  have hl : lv_has ls 5 [(0, .ref a8), (1, .int (nI i)), (2, .int 0)] := hl
  refine lv_iconst (v := 0) hx hb dX1_owedWithout_0 (by decide) ?_
  refine lv_istore_n (lv' := [(3, .int 0), (0, .ref a8), (1, .int (nI i)), (2, .int 0)]) hx hb dX1_owedWithout_1 rfl hl (by decide) rfl (fun ls hl => ?_)
  refine lv_iconst (v := 0) hx hb dX1_owedWithout_2 (by decide) ?_
  refine lv_istore (lv' := [(4, .int 0), (3, .int 0), (0, .ref a8), (1, .int (nI i)), (2, .int 0)]) hx hb dX1_owedWithout_3 hl (by decide) rfl (fun ls hl => ?_)
  refine g_loop 5 6 (fun i1 H locs ls => va_P D vwCl [(a8, .inr (0, [.ref a9, .ref a10])), (a9, .inl (k 0, 36, .inl (fun _ => 0)))] H ∧ va_D A [(a8, .inr (0, [.ref a9, .ref a10])), (a9, .inl (k 0, 36, .inl (fun _ => 0)))] ∧ va_S A s.heap H locs ∧ lv_has ls 5 [(4, .int (nI i1)), (3, .int 0), (0, .ref a8), (1, .int (nI i)), (2, .int 0)]) [] ?_ ?_ 0 (Nat.zero_le _) _ _ _ ⟨hP, hD, hS, lv_sub hl [0, 1, 2, 3, 4] rfl⟩
  · intro H locs ls hI
    obtain ⟨hP, hD, hS, hl⟩ := hI
    have hl : lv_has ls 5 [(4, .int 6), (3, .int 0), (0, .ref a8), (1, .int (nI i)), (2, .int 0)] := hl
    refine lv_iload hx hb dX1_owedWithout_5 (lv_at hl 0 rfl) ?_
    refine lv_bipush (v := 6) hx hb dX1_owedWithout_7 (by decide) ?_
    refine lv_icmp_ge (tgt := 37) hx hb dX1_owedWithout_9 (by decide) (fun _ => ?_) (fun h9 => absurd (by decide) h9)
    refine lv_iload_n hx hb dX1_owedWithout_37 rfl (lv_at hl 1 rfl) ?_
    have hP := hP.sub (ws' := [(a8, .inr (0, [.ref a9, .ref a10])), (a9, .inl (k 0, 36, .inl (fun _ => 0)))]) [0, 1] rfl
    have hD := hD.sub (ws' := [(a8, .inr (0, [.ref a9, .ref a10])), (a9, .inl (k 0, 36, .inl (fun _ => 0)))]) [0, 1] (by decide) rfl
    exact g_iret hx hb hr rfl hlocks hK (fun _ => 0) hP hD hS rfl dX1_owedWithout_38 ⟨Nat.le_of_ble_eq_true rfl, Nat.le_of_ble_eq_true rfl⟩
  · intro i1 hi1 ihi1 H locs ls hI
    obtain ⟨hP, hD, hS, hl⟩ := hI
    refine lv_iload hx hb dX1_owedWithout_5 (lv_at hl 0 rfl) ?_
    refine lv_bipush (v := 6) hx hb dX1_owedWithout_7 (by decide) ?_
    refine lv_icmp_ge (tgt := 37) hx hb dX1_owedWithout_9 (by decide) (fun h9 => absurd h9 (fun z => absurd ((nI_leI (a := 6) (b := i1) (by omega) (by omega)).mp z) (by omega))) (fun _ => ?_)
    refine lv_iload_n hx hb dX1_owedWithout_12 rfl (lv_at hl 4 rfl) ?_
    refine lv_iload hx hb dX1_owedWithout_13 (lv_at hl 0 rfl) ?_
    refine lv_ishr hx hb dX1_owedWithout_15 ?_
    refine lv_topi (fun x2 ex2 => ?_)
    refine lv_iconst (v := 1) hx hb dX1_owedWithout_16 (by decide) ?_
    refine lv_iand hx hb dX1_owedWithout_17 ?_
    refine lv_topi (fun x3 ex3 => ?_)
    refine lv_if_ne (tgt := 31) hx hb dX1_owedWithout_18 (by decide) (fun c4 => ?_) (fun c4 => ?_)
    · refine lv_iinc (v := (nI (i1 + 1))) (lv' := [(4, .int (nI (i1 + 1))), (3, .int 0), (0, .ref a8), (1, .int (nI i)), (2, .int 0)]) hx hb dX1_owedWithout_31 hl (k := 0) rfl (nI_1 i1) (by decide) rfl (fun ls hl => ?_)
      refine lv_goto (tgt := 5) hx hb dX1_owedWithout_34 (by decide) ?_
      exact ihi1 _ _ _ ⟨hP, hD, hS, lv_sub hl [0, 1, 2, 3, 4] rfl⟩
    · refine lv_iload_n hx hb dX1_owedWithout_21 rfl (lv_at hl 1 rfl) ?_
      refine lv_aload_n hx hb dX1_owedWithout_22 rfl (lv_at hl 2 rfl) ?_
      refine lv_iload hx hb dX1_owedWithout_23 (lv_at hl 0 rfl) ?_
      refine lv_iload_n hx hb dX1_owedWithout_25 rfl (lv_at hl 3 rfl) ?_
      refine g_iV (As := [.int (nI i1), .int (nI i)]) (rest := [.int 0]) (wr := []) ⟨hx, hb, hml, hown, hts⟩ (cD_of l D k a8 a9 a10 i1 i (by omega) (by omega)) (cwV 2 hts gX1_owedWithout_X1_of rfl rfl rfl (by decide +kernel) ⟨Nat.le_of_ble_eq_true rfl, Nat.le_of_ble_eq_true rfl⟩) g_E0_ok (fun _ _ _ => trivial) hK hP hD hS hA 0 0 rfl rfl rfl [0, 1] [] rfl rfl (by decide) rfl hl.1 rfl (Nat.le_of_ble_eq_true rfl) dX1_owedWithout_26 ⟨Nat.le_of_ble_eq_true rfl, Nat.le_of_ble_eq_true rfl⟩ (fun u5 H locs hP hD hS => ?_)
      have hP : va_P D vwCl [(a8, .inr (0, [.ref a9, .ref a10])), (a9, .inl (k 0, 36, .inl (fun _ => 0)))] H := hP
      have hD : va_D A [(a8, .inr (0, [.ref a9, .ref a10])), (a9, .inl (k 0, 36, .inl (fun _ => 0)))] := hD
      refine lv_iadd hx hb dX1_owedWithout_29 ?_
      refine lv_topi (fun x6 ex6 => ?_)
      obtain rfl : x6 = 0 := ex6.trans (by decide)
      refine lv_istore_n (lv' := [(3, .int 0), (4, .int (nI i1)), (0, .ref a8), (1, .int (nI i)), (2, .int 0)]) hx hb dX1_owedWithout_30 rfl hl (by decide) rfl (fun ls hl => ?_)
      refine lv_iinc (v := (nI (i1 + 1))) (lv' := [(4, .int (nI (i1 + 1))), (3, .int 0), (0, .ref a8), (1, .int (nI i)), (2, .int 0)]) hx hb dX1_owedWithout_31 hl (k := 1) rfl (nI_1 i1) (by decide) rfl (fun ls hl => ?_)
      refine lv_goto (tgt := 5) hx hb dX1_owedWithout_34 (by decide) ?_
      exact ihi1 _ _ _ ⟨hP, hD, hS, lv_sub hl [0, 1, 2, 3, 4] rfl⟩
set_option maxHeartbeats 4000000 in
set_option maxRecDepth 100000 in
theorem cD_owed (l : Launch) (D : va_G) (k : Nat → ClassId) (a8 : Nat) (a9 : Nat) (a10 : Nat) (i : Nat) (hi : i < 6) : g_Ci l yX1_owed wsX1_owed ({ frames := 3, cells := 0, slots := 0, locals := 67 }) D k g_E0 [.ref a8, .int (nI i)] [(a8, .inr (0, [.ref a9, .ref a10])), (a9, .inl (k 0, 36, .inl (fun _ => 0)))] 0 (fun u => [(a8, .inr (0, [.ref a9, .ref a10])), (a9, .inl (k 0, 36, .inl (fun _ => 0)))]) 0 0 := by
  intro sz
  refine Met.ofW (cc := cX1_owed) (maxL := 2) (ret := (some .int)) (by decide) rfl ?_
  intro p e s m args below meth c s₁ B hml hv
  obtain ⟨rfl, hsz, hP, hK, hD0, hE⟩ := hv
  have hx := B.exec
  have hb := B.bytes
  have hr := B.returns
  have hts := atoms_spec (ws := wsX1_owed) B.pre
  have hown : s.vm.findClass RX1 = some m.cls := findClass_of_methodNamed B.named
  have hlocks := B.notSynchronized
  subst hsz
  have hD := hD0.self (sz := s.heap.size)
  generalize hAe : va_A [(a8, .inr (0, [.ref a9, .ref a10])), (a9, .inl (k 0, 36, .inl (fun _ => 0)))] s.heap.size = A at hD ⊢
  have hA : ∀ q : Nat, s.heap.size ≤ q → A q := fun q h => by rw [← hAe]; exact Or.inr h
  have hS : va_S A s.heap s.heap [] := va_S.rf
  have hP : va_P D vwCl [(a8, .inr (0, [.ref a9, .ref a10])), (a9, .inl (k 0, 36, .inl (fun _ => 0)))] s.heap := hP
  have hl := lv_entry ([.ref a8, .int (nI i)]) (n := 2) (Nat.le_of_ble_eq_true rfl)
  rw [lg_entry_eq]
  generalize (lg_sl ([.ref a8, .int (nI i)]) ++ List.replicate (2 - (lg_sl ([.ref a8, .int (nI i)])).length) Slot.unset).toArray = ls at hl ⊢
  have hl : lv_has ls 2 [(0, .ref a8), (1, .int (nI i))] := hl
  refine lv_aload_n hx hb dX1_owed_0 rfl (lv_at hl 0 rfl) ?_
  refine lv_iload_n hx hb dX1_owed_1 rfl (lv_at hl 1 rfl) ?_
  refine lv_iconst (v := 0) hx hb dX1_owed_2 (by decide) ?_
  refine g_iV (As := [.int (nI i), .int 0]) (rest := []) (wr := []) ⟨hx, hb, hml, hown, hts⟩ (cD_owedWithout l D k a8 a9 a10 i (by omega)) (cwV 2 hts gX1_owed_X1_owedWithout rfl rfl rfl (by decide +kernel) ⟨Nat.le_of_ble_eq_true rfl, Nat.le_of_ble_eq_true rfl⟩) g_E0_ok (fun _ _ _ => trivial) hK hP hD hS hA 0 0 rfl rfl rfl [0, 1] [] rfl rfl (by decide) rfl hl.1 rfl (Nat.le_of_ble_eq_true rfl) dX1_owed_3 ⟨Nat.le_of_ble_eq_true rfl, Nat.le_of_ble_eq_true rfl⟩ (fun u1 H locs hP hD hS => ?_)
  have hP : va_P D vwCl [(a8, .inr (0, [.ref a9, .ref a10])), (a9, .inl (k 0, 36, .inl (fun _ => 0)))] H := hP
  have hD : va_D A [(a8, .inr (0, [.ref a9, .ref a10])), (a9, .inl (k 0, 36, .inl (fun _ => 0)))] := hD
  have hP := hP.sub (ws' := [(a8, .inr (0, [.ref a9, .ref a10])), (a9, .inl (k 0, 36, .inl (fun _ => 0)))]) [0, 1] rfl
  have hD := hD.sub (ws' := [(a8, .inr (0, [.ref a9, .ref a10])), (a9, .inl (k 0, 36, .inl (fun _ => 0)))]) [0, 1] (by decide) rfl
  exact g_iret hx hb hr rfl hlocks hK (fun _ => 0) hP hD hS rfl dX1_owed_6 ⟨Nat.le_of_ble_eq_true rfl, Nat.le_of_ble_eq_true rfl⟩
set_option maxHeartbeats 4000000 in
set_option maxRecDepth 100000 in
theorem cD_balance (l : Launch) (D : va_G) (k : Nat → ClassId) (a8 : Nat) (a9 : Nat) (a10 : Nat) (i : Nat) (hi : i < 6) : g_Ci l yX1_balance wsX1_balance ({ frames := 4, cells := 0, slots := 0, locals := 88 }) D k g_E0 [.ref a8, .int (nI i)] [(a8, .inr (0, [.ref a9, .ref a10])), (a9, .inl (k 0, 36, .inl (fun _ => 0)))] 0 (fun u => [(a8, .inr (0, [.ref a9, .ref a10])), (a9, .inl (k 0, 36, .inl (fun _ => 0)))]) 0 0 := by
  intro sz
  refine Met.ofW (cc := cX1_balance) (maxL := 2) (ret := (some .int)) (by decide) rfl ?_
  intro p e s m args below meth c s₁ B hml hv
  obtain ⟨rfl, hsz, hP, hK, hD0, hE⟩ := hv
  have hx := B.exec
  have hb := B.bytes
  have hr := B.returns
  have hts := atoms_spec (ws := wsX1_balance) B.pre
  have hown : s.vm.findClass RX1 = some m.cls := findClass_of_methodNamed B.named
  have hlocks := B.notSynchronized
  subst hsz
  have hD := hD0.self (sz := s.heap.size)
  generalize hAe : va_A [(a8, .inr (0, [.ref a9, .ref a10])), (a9, .inl (k 0, 36, .inl (fun _ => 0)))] s.heap.size = A at hD ⊢
  have hA : ∀ q : Nat, s.heap.size ≤ q → A q := fun q h => by rw [← hAe]; exact Or.inr h
  have hS : va_S A s.heap s.heap [] := va_S.rf
  have hP : va_P D vwCl [(a8, .inr (0, [.ref a9, .ref a10])), (a9, .inl (k 0, 36, .inl (fun _ => 0)))] s.heap := hP
  have hl := lv_entry ([.ref a8, .int (nI i)]) (n := 2) (Nat.le_of_ble_eq_true rfl)
  rw [lg_entry_eq]
  generalize (lg_sl ([.ref a8, .int (nI i)]) ++ List.replicate (2 - (lg_sl ([.ref a8, .int (nI i)])).length) Slot.unset).toArray = ls at hl ⊢
  have hl : lv_has ls 2 [(0, .ref a8), (1, .int (nI i))] := hl
  refine lv_aload_n hx hb dX1_balance_0 rfl (lv_at hl 0 rfl) ?_
  refine lv_iload_n hx hb dX1_balance_1 rfl (lv_at hl 1 rfl) ?_
  refine g_iV (As := [.int (nI i)]) (rest := []) (wr := []) ⟨hx, hb, hml, hown, hts⟩ (cD_owed l D k a8 a9 a10 i (by omega)) (cwV 1 hts gX1_balance_X1_owed rfl rfl rfl (by decide +kernel) ⟨Nat.le_of_ble_eq_true rfl, Nat.le_of_ble_eq_true rfl⟩) g_E0_ok (fun _ _ _ => trivial) hK hP hD hS hA 0 0 rfl rfl rfl [0, 1] [] rfl rfl (by decide) rfl hl.1 rfl (Nat.le_of_ble_eq_true rfl) dX1_balance_2 ⟨Nat.le_of_ble_eq_true rfl, Nat.le_of_ble_eq_true rfl⟩ (fun u1 H locs hP hD hS => ?_)
  have hP : va_P D vwCl [(a8, .inr (0, [.ref a9, .ref a10])), (a9, .inl (k 0, 36, .inl (fun _ => 0)))] H := hP
  have hD : va_D A [(a8, .inr (0, [.ref a9, .ref a10])), (a9, .inl (k 0, 36, .inl (fun _ => 0)))] := hD
  refine lv_aload_n hx hb dX1_balance_5 rfl (lv_at hl 0 rfl) ?_
  refine lv_iload_n hx hb dX1_balance_6 rfl (lv_at hl 1 rfl) ?_
  refine g_iV (As := [.int (nI i)]) (rest := [.int 0]) (wr := []) ⟨hx, hb, hml, hown, hts⟩ (cD_owes l D k a8 a9 a10 i (by omega)) (cwV 1 hts gX1_balance_X1_owes rfl rfl rfl (by decide +kernel) ⟨Nat.le_of_ble_eq_true rfl, Nat.le_of_ble_eq_true rfl⟩) g_E0_ok (fun _ _ _ => trivial) hK hP hD hS hA 0 0 rfl rfl rfl [0, 1] [] rfl rfl (by decide) rfl hl.1 rfl (Nat.le_of_ble_eq_true rfl) dX1_balance_7 ⟨Nat.le_of_ble_eq_true rfl, Nat.le_of_ble_eq_true rfl⟩ (fun u2 H locs hP hD hS => ?_)
  have hP : va_P D vwCl [(a8, .inr (0, [.ref a9, .ref a10])), (a9, .inl (k 0, 36, .inl (fun _ => 0)))] H := hP
  have hD : va_D A [(a8, .inr (0, [.ref a9, .ref a10])), (a9, .inl (k 0, 36, .inl (fun _ => 0)))] := hD
  refine lv_isub hx hb dX1_balance_10 ?_
  refine lv_topi (fun x3 ex3 => ?_)
  obtain rfl : x3 = 0 := ex3.trans (by decide)
  have hP := hP.sub (ws' := [(a8, .inr (0, [.ref a9, .ref a10])), (a9, .inl (k 0, 36, .inl (fun _ => 0)))]) [0, 1] rfl
  have hD := hD.sub (ws' := [(a8, .inr (0, [.ref a9, .ref a10])), (a9, .inl (k 0, 36, .inl (fun _ => 0)))]) [0, 1] (by decide) rfl
  exact g_iret hx hb hr rfl hlocks hK (fun _ => 0) hP hD hS rfl dX1_balance_11 ⟨Nat.le_of_ble_eq_true rfl, Nat.le_of_ble_eq_true rfl⟩
set_option maxHeartbeats 4000000 in
set_option maxRecDepth 100000 in
theorem cD_all (l : Launch) (D : va_G) (k : Nat → ClassId) (a8 : Nat) (a9 : Nat) (a10 : Nat) : g_Ci l yX1_all wsX1_all ({ frames := 0, cells := 0, slots := 0, locals := 0 }) D k g_E0 [.ref a8] [(a8, .inr (0, [.ref a9, .ref a10])), (a9, .inl (k 0, 36, .inl (fun _ => 0)))] 0 (fun u => [(a8, .inr (0, [.ref a9, .ref a10])), (a9, .inl (k 0, 36, .inl (fun _ => 0)))]) 0 0 := by
  intro sz
  refine Met.ofW (cc := cX1_all) (maxL := 3) (ret := (some .int)) (by decide) rfl ?_
  intro p e s m args below meth c s₁ B hml hv
  obtain ⟨rfl, hsz, hP, hK, hD0, hE⟩ := hv
  have hx := B.exec
  have hb := B.bytes
  have hr := B.returns
  have hts := atoms_spec (ws := wsX1_all) B.pre
  have hown : s.vm.findClass RX1 = some m.cls := findClass_of_methodNamed B.named
  have hlocks := B.notSynchronized
  subst hsz
  have hD := hD0.self (sz := s.heap.size)
  generalize hAe : va_A [(a8, .inr (0, [.ref a9, .ref a10])), (a9, .inl (k 0, 36, .inl (fun _ => 0)))] s.heap.size = A at hD ⊢
  have hA : ∀ q : Nat, s.heap.size ≤ q → A q := fun q h => by rw [← hAe]; exact Or.inr h
  have hS : va_S A s.heap s.heap [] := va_S.rf
  have hP : va_P D vwCl [(a8, .inr (0, [.ref a9, .ref a10])), (a9, .inl (k 0, 36, .inl (fun _ => 0)))] s.heap := hP
  have hl := lv_entry ([.ref a8]) (n := 3) (Nat.le_of_ble_eq_true rfl)
  rw [lg_entry_eq]
  generalize (lg_sl ([.ref a8]) ++ List.replicate (3 - (lg_sl ([.ref a8])).length) Slot.unset).toArray = ls at hl ⊢
  have hl : lv_has ls 3 [(0, .ref a8)] := hl
  refine lv_iconst (v := 0) hx hb dX1_all_0 (by decide) ?_
  refine lv_istore_n (lv' := [(1, .int 0), (0, .ref a8)]) hx hb dX1_all_1 rfl hl (by decide) rfl (fun ls hl => ?_)
  refine lv_iconst (v := 0) hx hb dX1_all_2 (by decide) ?_
  refine lv_istore_n (lv' := [(2, .int 0), (1, .int 0), (0, .ref a8)]) hx hb dX1_all_3 rfl hl (by decide) rfl (fun ls hl => ?_)
  refine g_loop 4 36 (fun i1 H locs ls => va_P D vwCl [(a8, .inr (0, [.ref a9, .ref a10])), (a9, .inl (k 0, 36, .inl (fun _ => 0)))] H ∧ va_D A [(a8, .inr (0, [.ref a9, .ref a10])), (a9, .inl (k 0, 36, .inl (fun _ => 0)))] ∧ va_S A s.heap H locs ∧ lv_has ls 3 [(2, .int (nI i1)), (1, .int 0), (0, .ref a8)]) [] ?_ ?_ 0 (Nat.zero_le _) _ _ _ ⟨hP, hD, hS, lv_sub hl [0, 1, 2] rfl⟩
  · intro H locs ls hI
    obtain ⟨hP, hD, hS, hl⟩ := hI
    have hl : lv_has ls 3 [(2, .int 36), (1, .int 0), (0, .ref a8)] := hl
    refine lv_iload_n hx hb dX1_all_4 rfl (lv_at hl 0 rfl) ?_
    refine lv_aload_n hx hb dX1_all_5 rfl (lv_at hl 2 rfl) ?_
    refine va_get (D := D) (ci := 0) (v := .ref a9) (C := RX1) (T := TX1) (N := 2) hx hb hts inX1_all_X1 hown hK hP 0 rfl rfl 0 (by decide) (hts (.fieldLink RX1 9 "RungMoney$Debts" "rows" "[I") (by decide +kernel)) (fun _ h9 => h9) rfl dX1_all_6 ?_
    refine va_alen (v := 36) hx hb hK hP 1 0 rfl rfl rfl dX1_all_9 ?_
    refine lv_icmp_ge (tgt := 28) hx hb dX1_all_10 (by decide) (fun _ => ?_) (fun h9 => absurd (by decide) h9)
    refine lv_iload_n hx hb dX1_all_28 rfl (lv_at hl 1 rfl) ?_
    have hP := hP.sub (ws' := [(a8, .inr (0, [.ref a9, .ref a10])), (a9, .inl (k 0, 36, .inl (fun _ => 0)))]) [0, 1] rfl
    have hD := hD.sub (ws' := [(a8, .inr (0, [.ref a9, .ref a10])), (a9, .inl (k 0, 36, .inl (fun _ => 0)))]) [0, 1] (by decide) rfl
    exact g_iret hx hb hr rfl hlocks hK (fun _ => 0) hP hD hS rfl dX1_all_29 ⟨Nat.le_of_ble_eq_true rfl, Nat.le_of_ble_eq_true rfl⟩
  · intro i1 hi1 ihi1 H locs ls hI
    obtain ⟨hP, hD, hS, hl⟩ := hI
    refine lv_iload_n hx hb dX1_all_4 rfl (lv_at hl 0 rfl) ?_
    refine lv_aload_n hx hb dX1_all_5 rfl (lv_at hl 2 rfl) ?_
    refine va_get (D := D) (ci := 0) (v := .ref a9) (C := RX1) (T := TX1) (N := 2) hx hb hts inX1_all_X1 hown hK hP 0 rfl rfl 0 (by decide) (hts (.fieldLink RX1 9 "RungMoney$Debts" "rows" "[I") (by decide +kernel)) (fun _ h9 => h9) rfl dX1_all_6 ?_
    refine va_alen (v := 36) hx hb hK hP 1 0 rfl rfl rfl dX1_all_9 ?_
    refine lv_icmp_ge (tgt := 28) hx hb dX1_all_10 (by decide) (fun h9 => absurd h9 (fun z => absurd ((nI_leI (a := 36) (b := i1) (by omega) (by omega)).mp z) (by omega))) (fun _ => ?_)
    refine lv_iload_n hx hb dX1_all_13 rfl (lv_at hl 1 rfl) ?_
    refine lv_aload_n hx hb dX1_all_14 rfl (lv_at hl 2 rfl) ?_
    refine va_get (D := D) (ci := 0) (v := .ref a9) (C := RX1) (T := TX1) (N := 2) hx hb hts inX1_all_X1 hown hK hP 0 rfl rfl 0 (by decide) (hts (.fieldLink RX1 9 "RungMoney$Debts" "rows" "[I") (by decide +kernel)) (fun _ h9 => h9) rfl dX1_all_15 ?_
    refine lv_iload_n hx hb dX1_all_18 rfl (lv_at hl 0 rfl) ?_
    refine va_iald hx hb hK hP 1 0 rfl rfl (vp_in_nI (by omega) (by decide)) dX1_all_19 ?_
    refine lv_topi (fun x2 ex2 => ?_)
    obtain rfl : x2 = 0 := ex2.trans rfl
    refine lv_iadd hx hb dX1_all_20 ?_
    refine lv_topi (fun x3 ex3 => ?_)
    obtain rfl : x3 = 0 := ex3.trans (by decide)
    refine lv_istore_n (lv' := [(1, .int 0), (2, .int (nI i1)), (0, .ref a8)]) hx hb dX1_all_21 rfl hl (by decide) rfl (fun ls hl => ?_)
    refine lv_iinc (v := (nI (i1 + 1))) (lv' := [(2, .int (nI (i1 + 1))), (1, .int 0), (0, .ref a8)]) hx hb dX1_all_22 hl (k := 1) rfl (nI_1 i1) (by decide) rfl (fun ls hl => ?_)
    refine lv_goto (tgt := 4) hx hb dX1_all_25 (by decide) ?_
    exact ihi1 _ _ _ ⟨hP, hD, hS, lv_sub hl [0, 1, 2] rfl⟩
set_option maxHeartbeats 4000000 in
set_option maxRecDepth 100000 in
theorem cD_allStruck (l : Launch) (D : va_G) (k : Nat → ClassId) (a8 : Nat) (a9 : Nat) (a10 : Nat) : g_Ci l yX1_allStruck wsX1_allStruck ({ frames := 5, cells := 0, slots := 0, locals := 109 }) D k g_E0 [.ref a8] [(a8, .inr (0, [.ref a9, .ref a10])), (a9, .inl (k 0, 36, .inl (fun _ => 0)))] 0 (fun u => [(a8, .inr (0, [.ref a9, .ref a10])), (a9, .inl (k 0, 36, .inl (fun _ => 0)))]) 0 0 := by
  intro sz
  refine Met.ofW (cc := cX1_allStruck) (maxL := 3) (ret := (some .int)) (by decide) rfl ?_
  intro p e s m args below meth c s₁ B hml hv
  obtain ⟨rfl, hsz, hP, hK, hD0, hE⟩ := hv
  have hx := B.exec
  have hb := B.bytes
  have hr := B.returns
  have hts := atoms_spec (ws := wsX1_allStruck) B.pre
  have hown : s.vm.findClass RX1 = some m.cls := findClass_of_methodNamed B.named
  have hlocks := B.notSynchronized
  subst hsz
  have hD := hD0.self (sz := s.heap.size)
  generalize hAe : va_A [(a8, .inr (0, [.ref a9, .ref a10])), (a9, .inl (k 0, 36, .inl (fun _ => 0)))] s.heap.size = A at hD ⊢
  have hA : ∀ q : Nat, s.heap.size ≤ q → A q := fun q h => by rw [← hAe]; exact Or.inr h
  have hS : va_S A s.heap s.heap [] := va_S.rf
  have hP : va_P D vwCl [(a8, .inr (0, [.ref a9, .ref a10])), (a9, .inl (k 0, 36, .inl (fun _ => 0)))] s.heap := hP
  have hl := lv_entry ([.ref a8]) (n := 3) (Nat.le_of_ble_eq_true rfl)
  rw [lg_entry_eq]
  generalize (lg_sl ([.ref a8]) ++ List.replicate (3 - (lg_sl ([.ref a8])).length) Slot.unset).toArray = ls at hl ⊢
  have hl : lv_has ls 3 [(0, .ref a8)] := hl
  refine lv_iconst (v := 0) hx hb dX1_allStruck_0 (by decide) ?_
  refine lv_istore_n (lv' := [(1, .int 0), (0, .ref a8)]) hx hb dX1_allStruck_1 rfl hl (by decide) rfl (fun ls hl => ?_)
  refine lv_iconst (v := 0) hx hb dX1_allStruck_2 (by decide) ?_
  refine lv_istore_n (lv' := [(2, .int 0), (1, .int 0), (0, .ref a8)]) hx hb dX1_allStruck_3 rfl hl (by decide) rfl (fun ls hl => ?_)
  refine g_loop 4 6 (fun i1 H locs ls => va_P D vwCl [(a8, .inr (0, [.ref a9, .ref a10])), (a9, .inl (k 0, 36, .inl (fun _ => 0)))] H ∧ va_D A [(a8, .inr (0, [.ref a9, .ref a10])), (a9, .inl (k 0, 36, .inl (fun _ => 0)))] ∧ va_S A s.heap H locs ∧ lv_has ls 3 [(2, .int (nI i1)), (1, .int 0), (0, .ref a8)]) [] ?_ ?_ 0 (Nat.zero_le _) _ _ _ ⟨hP, hD, hS, lv_sub hl [0, 1, 2] rfl⟩
  · intro H locs ls hI
    obtain ⟨hP, hD, hS, hl⟩ := hI
    have hl : lv_has ls 3 [(2, .int 6), (1, .int 0), (0, .ref a8)] := hl
    refine lv_iload_n hx hb dX1_allStruck_4 rfl (lv_at hl 0 rfl) ?_
    refine lv_bipush (v := 6) hx hb dX1_allStruck_5 (by decide) ?_
    refine lv_icmp_ge (tgt := 28) hx hb dX1_allStruck_7 (by decide) (fun _ => ?_) (fun h9 => absurd (by decide) h9)
    refine lv_iload_n hx hb dX1_allStruck_28 rfl (lv_at hl 1 rfl) ?_
    have hP := hP.sub (ws' := [(a8, .inr (0, [.ref a9, .ref a10])), (a9, .inl (k 0, 36, .inl (fun _ => 0)))]) [0, 1] rfl
    have hD := hD.sub (ws' := [(a8, .inr (0, [.ref a9, .ref a10])), (a9, .inl (k 0, 36, .inl (fun _ => 0)))]) [0, 1] (by decide) rfl
    exact g_iret hx hb hr rfl hlocks hK (fun _ => 0) hP hD hS rfl dX1_allStruck_29 ⟨Nat.le_of_ble_eq_true rfl, Nat.le_of_ble_eq_true rfl⟩
  · intro i1 hi1 ihi1 H locs ls hI
    obtain ⟨hP, hD, hS, hl⟩ := hI
    refine lv_iload_n hx hb dX1_allStruck_4 rfl (lv_at hl 0 rfl) ?_
    refine lv_bipush (v := 6) hx hb dX1_allStruck_5 (by decide) ?_
    refine lv_icmp_ge (tgt := 28) hx hb dX1_allStruck_7 (by decide) (fun h9 => absurd h9 (fun z => absurd ((nI_leI (a := 6) (b := i1) (by omega) (by omega)).mp z) (by omega))) (fun _ => ?_)
    refine lv_iload_n hx hb dX1_allStruck_10 rfl (lv_at hl 1 rfl) ?_
    refine lv_aload_n hx hb dX1_allStruck_11 rfl (lv_at hl 2 rfl) ?_
    refine lv_iload_n hx hb dX1_allStruck_12 rfl (lv_at hl 0 rfl) ?_
    refine g_iV (As := [.int (nI i1)]) (rest := [.int 0]) (wr := []) ⟨hx, hb, hml, hown, hts⟩ (cD_balance l D k a8 a9 a10 i1 (by omega)) (cwV 1 hts gX1_allStruck_X1_balance rfl rfl rfl (by decide +kernel) ⟨Nat.le_of_ble_eq_true rfl, Nat.le_of_ble_eq_true rfl⟩) g_E0_ok (fun _ _ _ => trivial) hK hP hD hS hA 0 0 rfl rfl rfl [0, 1] [] rfl rfl (by decide) rfl hl.1 rfl (Nat.le_of_ble_eq_true rfl) dX1_allStruck_13 ⟨Nat.le_of_ble_eq_true rfl, Nat.le_of_ble_eq_true rfl⟩ (fun u2 H locs hP hD hS => ?_)
    have hP : va_P D vwCl [(a8, .inr (0, [.ref a9, .ref a10])), (a9, .inl (k 0, 36, .inl (fun _ => 0)))] H := hP
    have hD : va_D A [(a8, .inr (0, [.ref a9, .ref a10])), (a9, .inl (k 0, 36, .inl (fun _ => 0)))] := hD
    refine lv_iconst (v := 0) hx hb dX1_allStruck_16 (by decide) ?_
    refine va_mmax hx hb (by rw [hml]; exact hl.1.symm) hown (hts (.methodLink RX1 51 Lib.Math.max.name) (by decide +kernel)) (hts (.static Lib.Math.max.name) (by decide +kernel)) (hts (.initialized "java/lang/Math") (by decide +kernel)) (hts (.code Lib.Math.max.name Lib.Math.max.code 2 (some .int)) (by decide +kernel)) (Nat.le_of_ble_eq_true rfl) (Nat.le_of_ble_eq_true rfl) (Nat.le_of_ble_eq_true rfl) (Nat.le_of_ble_eq_true rfl) dX1_allStruck_17 ?_
    refine lv_topi (fun x3 ex3 => ?_)
    obtain rfl : x3 = 0 := ex3.trans (by decide)
    refine lv_iadd hx hb dX1_allStruck_20 ?_
    refine lv_topi (fun x4 ex4 => ?_)
    obtain rfl : x4 = 0 := ex4.trans (by decide)
    refine lv_istore_n (lv' := [(1, .int 0), (2, .int (nI i1)), (0, .ref a8)]) hx hb dX1_allStruck_21 rfl hl (by decide) rfl (fun ls hl => ?_)
    refine lv_iinc (v := (nI (i1 + 1))) (lv' := [(2, .int (nI (i1 + 1))), (1, .int 0), (0, .ref a8)]) hx hb dX1_allStruck_22 hl (k := 1) rfl (nI_1 i1) (by decide) rfl (fun ls hl => ?_)
    refine lv_goto (tgt := 4) hx hb dX1_allStruck_25 (by decide) ?_
    exact ihi1 _ _ _ ⟨hP, hD, hS, lv_sub hl [0, 1, 2] rfl⟩
set_option maxHeartbeats 4000000 in
set_option maxRecDepth 100000 in
theorem cD_strikeFrom (l : Launch) (D : va_G) (k : Nat → ClassId) (a8 : Nat) (a9 : Nat) (a10 : Nat) (b8 : Nat) (b9 : Nat) (b10 : Nat) : g_Cv l yX1_strikeFrom wsX1_strikeFrom ({ frames := 5, cells := 0, slots := 0, locals := 109 }) D k g_E0 [.ref a8, .ref b8] [(a8, .inr (0, [.ref a9, .ref a10])), (a9, .inl (k 0, 36, .inl (fun _ => 0))), (a10, .inl (k 0, 6, .inl (fun _ => 0))), (b8, .inr (0, [.ref b9, .ref b10])), (b9, .inl (k 0, 36, .inl (fun _ => 0)))] (fun u => [(a8, .inr (0, [.ref a9, .ref a10])), (a9, .inl (k 0, 36, .inl (fun _ => 0))), (a10, .inl (k 0, 6, .inl (fun _ => 0))), (b8, .inr (0, [.ref b9, .ref b10])), (b9, .inl (k 0, 36, .inl (fun _ => 0)))]) 0 0 := by
  intro sz
  refine Met.ofW (cc := cX1_strikeFrom) (maxL := 5) (ret := none) (by decide) rfl ?_
  intro p e s m args below meth c s₁ B hml hv
  obtain ⟨rfl, hsz, hP, hK, hD0, hE⟩ := hv
  have hx := B.exec
  have hb := B.bytes
  have hr := B.returns
  have hts := atoms_spec (ws := wsX1_strikeFrom) B.pre
  have hown : s.vm.findClass RX1 = some m.cls := findClass_of_methodNamed B.named
  have hlocks := B.notSynchronized
  subst hsz
  have hD := hD0.self (sz := s.heap.size)
  generalize hAe : va_A [(a8, .inr (0, [.ref a9, .ref a10])), (a9, .inl (k 0, 36, .inl (fun _ => 0))), (a10, .inl (k 0, 6, .inl (fun _ => 0))), (b8, .inr (0, [.ref b9, .ref b10])), (b9, .inl (k 0, 36, .inl (fun _ => 0)))] s.heap.size = A at hD ⊢
  have hA : ∀ q : Nat, s.heap.size ≤ q → A q := fun q h => by rw [← hAe]; exact Or.inr h
  have hS : va_S A s.heap s.heap [] := va_S.rf
  have hP : va_P D vwCl [(a8, .inr (0, [.ref a9, .ref a10])), (a9, .inl (k 0, 36, .inl (fun _ => 0))), (a10, .inl (k 0, 6, .inl (fun _ => 0))), (b8, .inr (0, [.ref b9, .ref b10])), (b9, .inl (k 0, 36, .inl (fun _ => 0)))] s.heap := hP
  have hl := lv_entry ([.ref a8, .ref b8]) (n := 5) (Nat.le_of_ble_eq_true rfl)
  rw [lg_entry_eq]
  generalize (lg_sl ([.ref a8, .ref b8]) ++ List.replicate (5 - (lg_sl ([.ref a8, .ref b8])).length) Slot.unset).toArray = ls at hl ⊢
  have hl : lv_has ls 5 [(0, .ref a8), (1, .ref b8)] := hl
  refine lv_aload_n hx hb dX1_strikeFrom_0 rfl (lv_at hl 0 rfl) ?_
  refine g_vV (As := []) (rest := []) (wr := [(a10, .inl (k 0, 6, .inl (fun _ => 0))), (b8, .inr (0, [.ref b9, .ref b10])), (b9, .inl (k 0, 36, .inl (fun _ => 0)))]) ⟨hx, hb, hml, hown, hts⟩ (cD_clear l D k a8 a9 a10) (cwV 0 hts gX1_strikeFrom_X1_clear rfl rfl rfl (by decide +kernel) ⟨Nat.le_of_ble_eq_true rfl, Nat.le_of_ble_eq_true rfl⟩) g_E0_ok (fun _ _ _ => trivial) hK hP hD hS hA 0 0 rfl rfl rfl [0, 1] [2, 3, 4] rfl rfl (by decide) rfl hl.1 rfl (Nat.le_of_ble_eq_true rfl) dX1_strikeFrom_1 ⟨Nat.le_of_ble_eq_true rfl, Nat.le_of_ble_eq_true rfl⟩ (fun u1 H locs hP hD hS => ?_)
  have hP : va_P D vwCl [(a10, .inl (k 0, 6, .inl (fun _ => 0))), (b8, .inr (0, [.ref b9, .ref b10])), (b9, .inl (k 0, 36, .inl (fun _ => 0))), (a8, .inr (0, [.ref a9, .ref a10])), (a9, .inl (k 0, 36, .inl (fun _ => 0)))] H := hP
  have hD : va_D A [(a10, .inl (k 0, 6, .inl (fun _ => 0))), (b8, .inr (0, [.ref b9, .ref b10])), (b9, .inl (k 0, 36, .inl (fun _ => 0))), (a8, .inr (0, [.ref a9, .ref a10])), (a9, .inl (k 0, 36, .inl (fun _ => 0)))] := hD
  refine lv_iconst (v := 0) hx hb dX1_strikeFrom_4 (by decide) ?_
  refine lv_istore_n (lv' := [(2, .int 0), (0, .ref a8), (1, .ref b8)]) hx hb dX1_strikeFrom_5 rfl hl (by decide) rfl (fun ls hl => ?_)
  refine g_loop 6 6 (fun i2 H locs ls => va_P D vwCl [(a10, .inl (k 0, 6, .inl (fun _ => 0))), (b8, .inr (0, [.ref b9, .ref b10])), (b9, .inl (k 0, 36, .inl (fun _ => 0))), (a8, .inr (0, [.ref a9, .ref a10])), (a9, .inl (k 0, 36, .inl (fun _ => 0)))] H ∧ va_D A [(a10, .inl (k 0, 6, .inl (fun _ => 0))), (b8, .inr (0, [.ref b9, .ref b10])), (b9, .inl (k 0, 36, .inl (fun _ => 0))), (a8, .inr (0, [.ref a9, .ref a10])), (a9, .inl (k 0, 36, .inl (fun _ => 0)))] ∧ va_S A s.heap H locs ∧ lv_has ls 5 [(2, .int (nI i2)), (0, .ref a8), (1, .ref b8)]) [] ?_ ?_ 0 (Nat.zero_le _) _ _ _ ⟨hP, hD, hS, lv_sub hl [0, 1, 2] rfl⟩
  · intro H locs ls hI
    obtain ⟨hP, hD, hS, hl⟩ := hI
    have hl : lv_has ls 5 [(2, .int 6), (0, .ref a8), (1, .ref b8)] := hl
    refine lv_iload_n hx hb dX1_strikeFrom_6 rfl (lv_at hl 0 rfl) ?_
    refine lv_bipush (v := 6) hx hb dX1_strikeFrom_7 (by decide) ?_
    refine lv_icmp_ge (tgt := 29) hx hb dX1_strikeFrom_9 (by decide) (fun _ => ?_) (fun h9 => absurd (by decide) h9)
    refine lv_iconst (v := 0) hx hb dX1_strikeFrom_29 (by decide) ?_
    refine lv_istore_n (lv' := [(2, .int 0), (0, .ref a8), (1, .ref b8)]) hx hb dX1_strikeFrom_30 rfl hl (by decide) rfl (fun ls hl => ?_)
    refine g_loop 31 6 (fun i3 H locs ls => va_P D vwCl [(a10, .inl (k 0, 6, .inl (fun _ => 0))), (b8, .inr (0, [.ref b9, .ref b10])), (b9, .inl (k 0, 36, .inl (fun _ => 0))), (a8, .inr (0, [.ref a9, .ref a10])), (a9, .inl (k 0, 36, .inl (fun _ => 0)))] H ∧ va_D A [(a10, .inl (k 0, 6, .inl (fun _ => 0))), (b8, .inr (0, [.ref b9, .ref b10])), (b9, .inl (k 0, 36, .inl (fun _ => 0))), (a8, .inr (0, [.ref a9, .ref a10])), (a9, .inl (k 0, 36, .inl (fun _ => 0)))] ∧ va_S A s.heap H locs ∧ lv_has ls 5 [(2, .int (nI i3)), (0, .ref a8), (1, .ref b8)]) [] ?_ ?_ 0 (Nat.zero_le _) _ _ _ ⟨hP, hD, hS, lv_sub hl [0, 1, 2] rfl⟩
    · intro H locs ls hI
      obtain ⟨hP, hD, hS, hl⟩ := hI
      have hl : lv_has ls 5 [(2, .int 6), (0, .ref a8), (1, .ref b8)] := hl
      refine lv_iload_n hx hb dX1_strikeFrom_31 rfl (lv_at hl 0 rfl) ?_
      refine lv_bipush (v := 6) hx hb dX1_strikeFrom_32 (by decide) ?_
      refine lv_icmp_ge (tgt := 123) hx hb dX1_strikeFrom_34 (by decide) (fun _ => ?_) (fun h9 => absurd (by decide) h9)
      have hP := hP.sub (ws' := [(a8, .inr (0, [.ref a9, .ref a10])), (a9, .inl (k 0, 36, .inl (fun _ => 0))), (a10, .inl (k 0, 6, .inl (fun _ => 0))), (b8, .inr (0, [.ref b9, .ref b10])), (b9, .inl (k 0, 36, .inl (fun _ => 0)))]) [3, 4, 0, 1, 2] rfl
      have hD := hD.sub (ws' := [(a8, .inr (0, [.ref a9, .ref a10])), (a9, .inl (k 0, 36, .inl (fun _ => 0))), (a10, .inl (k 0, 6, .inl (fun _ => 0))), (b8, .inr (0, [.ref b9, .ref b10])), (b9, .inl (k 0, 36, .inl (fun _ => 0)))]) [3, 4, 0, 1, 2] (by decide) rfl
      exact g_vret hx hb hr hlocks hK (fun _ => 0) hP hD hS dX1_strikeFrom_123 ⟨Nat.le_of_ble_eq_true rfl, Nat.le_of_ble_eq_true rfl⟩
    · intro i3 hi3 ihi3 H locs ls hI
      obtain ⟨hP, hD, hS, hl⟩ := hI
      refine lv_iload_n hx hb dX1_strikeFrom_31 rfl (lv_at hl 0 rfl) ?_
      refine lv_bipush (v := 6) hx hb dX1_strikeFrom_32 (by decide) ?_
      refine lv_icmp_ge (tgt := 123) hx hb dX1_strikeFrom_34 (by decide) (fun h9 => absurd h9 (fun z => absurd ((nI_leI (a := 6) (b := i3) (by omega) (by omega)).mp z) (by omega))) (fun _ => ?_)
      refine lv_iconst (v := 0) hx hb dX1_strikeFrom_37 (by decide) ?_
      refine lv_istore_n (lv' := [(3, .int 0), (2, .int (nI i3)), (0, .ref a8), (1, .ref b8)]) hx hb dX1_strikeFrom_38 rfl hl (by decide) rfl (fun ls hl => ?_)
      refine g_loop 39 6 (fun i4 H locs ls => va_P D vwCl [(a10, .inl (k 0, 6, .inl (fun _ => 0))), (b8, .inr (0, [.ref b9, .ref b10])), (b9, .inl (k 0, 36, .inl (fun _ => 0))), (a8, .inr (0, [.ref a9, .ref a10])), (a9, .inl (k 0, 36, .inl (fun _ => 0)))] H ∧ va_D A [(a10, .inl (k 0, 6, .inl (fun _ => 0))), (b8, .inr (0, [.ref b9, .ref b10])), (b9, .inl (k 0, 36, .inl (fun _ => 0))), (a8, .inr (0, [.ref a9, .ref a10])), (a9, .inl (k 0, 36, .inl (fun _ => 0)))] ∧ va_S A s.heap H locs ∧ lv_has ls 5 [(3, .int (nI i4)), (2, .int (nI i3)), (0, .ref a8), (1, .ref b8)]) [] ?_ ?_ 0 (Nat.zero_le _) _ _ _ ⟨hP, hD, hS, lv_sub hl [0, 1, 2, 3] rfl⟩
      · intro H locs ls hI
        obtain ⟨hP, hD, hS, hl⟩ := hI
        have hl : lv_has ls 5 [(3, .int 6), (2, .int (nI i3)), (0, .ref a8), (1, .ref b8)] := hl
        refine lv_iload_n hx hb dX1_strikeFrom_39 rfl (lv_at hl 0 rfl) ?_
        refine lv_bipush (v := 6) hx hb dX1_strikeFrom_40 (by decide) ?_
        refine lv_icmp_ge (tgt := 117) hx hb dX1_strikeFrom_42 (by decide) (fun _ => ?_) (fun h9 => absurd (by decide) h9)
        refine lv_iinc (v := (nI (i3 + 1))) (lv' := [(2, .int (nI (i3 + 1))), (3, .int 6), (0, .ref a8), (1, .ref b8)]) hx hb dX1_strikeFrom_117 hl (k := 1) rfl (nI_1 i3) (by decide) rfl (fun ls hl => ?_)
        refine lv_goto (tgt := 31) hx hb dX1_strikeFrom_120 (by decide) ?_
        exact ihi3 _ _ _ ⟨hP, hD, hS, lv_sub hl [0, 2, 3] rfl⟩
      · intro i4 hi4 ihi4 H locs ls hI
        obtain ⟨hP, hD, hS, hl⟩ := hI
        refine lv_iload_n hx hb dX1_strikeFrom_39 rfl (lv_at hl 0 rfl) ?_
        refine lv_bipush (v := 6) hx hb dX1_strikeFrom_40 (by decide) ?_
        refine lv_icmp_ge (tgt := 117) hx hb dX1_strikeFrom_42 (by decide) (fun h9 => absurd h9 (fun z => absurd ((nI_leI (a := 6) (b := i4) (by omega) (by omega)).mp z) (by omega))) (fun _ => ?_)
        refine lv_aload_n hx hb dX1_strikeFrom_45 rfl (lv_at hl 2 rfl) ?_
        refine va_get (D := D) (ci := 0) (v := .ref a10) (C := RX1) (T := TX1) (N := 2) hx hb hts inX1_strikeFrom_X1 hown hK hP 3 rfl rfl 1 (by decide) (hts (.fieldLink RX1 15 "RungMoney$Debts" "balances" "[I") (by decide +kernel)) (fun _ h9 => h9) rfl dX1_strikeFrom_46 ?_
        refine lv_iload_n hx hb dX1_strikeFrom_49 rfl (lv_at hl 1 rfl) ?_
        refine va_iald hx hb hK hP 0 0 rfl rfl (vp_in_nI (by omega) (by decide)) dX1_strikeFrom_50 ?_
        refine lv_topi (fun x5 ex5 => ?_)
        obtain rfl : x5 = 0 := ex5.trans rfl
        refine lv_if_ge (tgt := 111) hx hb dX1_strikeFrom_51 (by decide) (fun _ => ?_) (fun h9 => absurd (by decide) h9)
        refine lv_iinc (v := (nI (i4 + 1))) (lv' := [(3, .int (nI (i4 + 1))), (2, .int (nI i3)), (0, .ref a8), (1, .ref b8)]) hx hb dX1_strikeFrom_111 hl (k := 0) rfl (nI_1 i4) (by decide) rfl (fun ls hl => ?_)
        refine lv_goto (tgt := 39) hx hb dX1_strikeFrom_114 (by decide) ?_
        exact ihi4 _ _ _ ⟨hP, hD, hS, lv_sub hl [0, 1, 2, 3] rfl⟩
  · intro i2 hi2 ihi2 H locs ls hI
    obtain ⟨hP, hD, hS, hl⟩ := hI
    refine lv_iload_n hx hb dX1_strikeFrom_6 rfl (lv_at hl 0 rfl) ?_
    refine lv_bipush (v := 6) hx hb dX1_strikeFrom_7 (by decide) ?_
    refine lv_icmp_ge (tgt := 29) hx hb dX1_strikeFrom_9 (by decide) (fun h9 => absurd h9 (fun z => absurd ((nI_leI (a := 6) (b := i2) (by omega) (by omega)).mp z) (by omega))) (fun _ => ?_)
    refine lv_aload_n hx hb dX1_strikeFrom_12 rfl (lv_at hl 1 rfl) ?_
    refine va_get (D := D) (ci := 0) (v := .ref a10) (C := RX1) (T := TX1) (N := 2) hx hb hts inX1_strikeFrom_X1 hown hK hP 3 rfl rfl 1 (by decide) (hts (.fieldLink RX1 15 "RungMoney$Debts" "balances" "[I") (by decide +kernel)) (fun _ h9 => h9) rfl dX1_strikeFrom_13 ?_
    refine lv_iload_n hx hb dX1_strikeFrom_16 rfl (lv_at hl 0 rfl) ?_
    refine lv_aload_n hx hb dX1_strikeFrom_17 rfl (lv_at hl 2 rfl) ?_
    refine lv_iload_n hx hb dX1_strikeFrom_18 rfl (lv_at hl 0 rfl) ?_
    refine g_iV (As := [.int (nI i2)]) (rest := [.int (nI i2), .ref a10]) (wr := [(a10, .inl (k 0, 6, .inl (fun _ => 0))), (a8, .inr (0, [.ref a9, .ref a10])), (a9, .inl (k 0, 36, .inl (fun _ => 0)))]) ⟨hx, hb, hml, hown, hts⟩ (cD_balance l D k b8 b9 b10 i2 (by omega)) (cwV 1 hts gX1_strikeFrom_X1_balance rfl rfl rfl (by decide +kernel) ⟨Nat.le_of_ble_eq_true rfl, Nat.le_of_ble_eq_true rfl⟩) g_E0_ok (fun _ _ _ => trivial) hK hP hD hS hA 1 0 rfl rfl rfl [1, 2] [0, 3, 4] rfl rfl (by decide) rfl hl.1 rfl (Nat.le_of_ble_eq_true rfl) dX1_strikeFrom_19 ⟨Nat.le_of_ble_eq_true rfl, Nat.le_of_ble_eq_true rfl⟩ (fun u6 H locs hP hD hS => ?_)
    have hP : va_P D vwCl [(a10, .inl (k 0, 6, .inl (fun _ => 0))), (a8, .inr (0, [.ref a9, .ref a10])), (a9, .inl (k 0, 36, .inl (fun _ => 0))), (b8, .inr (0, [.ref b9, .ref b10])), (b9, .inl (k 0, 36, .inl (fun _ => 0)))] H := hP
    have hD : va_D A [(a10, .inl (k 0, 6, .inl (fun _ => 0))), (a8, .inr (0, [.ref a9, .ref a10])), (a9, .inl (k 0, 36, .inl (fun _ => 0))), (b8, .inr (0, [.ref b9, .ref b10])), (b9, .inl (k 0, 36, .inl (fun _ => 0)))] := hD
    refine va_iast hx hb hK hP hD hS 0 0 rfl rfl (vp_in_nI (by omega) (by decide)) dX1_strikeFrom_22 (fun H locs hP hD hS => ?_)
    have e9 : (upd (fun _ => 0) ((nI i2) : Int32).toNatClampNeg 0 : Nat → Int32) = (fun _ => 0) := g_upd0 _
    have hP : va_P D vwCl [(a10, .inl (k 0, 6, .inl (fun _ => 0))), (a8, .inr (0, [.ref a9, .ref a10])), (a9, .inl (k 0, 36, .inl (fun _ => 0))), (b8, .inr (0, [.ref b9, .ref b10])), (b9, .inl (k 0, 36, .inl (fun _ => 0)))] H := by rw [e9] at hP; exact hP
    have hD : va_D A [(a10, .inl (k 0, 6, .inl (fun _ => 0))), (a8, .inr (0, [.ref a9, .ref a10])), (a9, .inl (k 0, 36, .inl (fun _ => 0))), (b8, .inr (0, [.ref b9, .ref b10])), (b9, .inl (k 0, 36, .inl (fun _ => 0)))] := by rw [e9] at hD; exact hD
    clear e9
    refine lv_iinc (v := (nI (i2 + 1))) (lv' := [(2, .int (nI (i2 + 1))), (0, .ref a8), (1, .ref b8)]) hx hb dX1_strikeFrom_23 hl (k := 0) rfl (nI_1 i2) (by decide) rfl (fun ls hl => ?_)
    refine lv_goto (tgt := 6) hx hb dX1_strikeFrom_26 (by decide) ?_
    exact ihi2 _ _ _ ⟨(hP.sub [0, 3, 4, 1, 2] rfl), (hD.sub [0, 3, 4, 1, 2] (by decide) rfl), hS, lv_sub hl [0, 1, 2] rfl⟩
