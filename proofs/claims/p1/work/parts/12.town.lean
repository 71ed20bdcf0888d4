set_option maxRecDepth 20000 in
theorem ggX10_clear_X1_clear : GoodIn wsX10_clear wsX1_clear := goodIn_r _ [14, 15, 16, 17, 18, 19, 36, 37] (by decide +kernel) (by decide +kernel)
set_option maxRecDepth 20000 in
theorem gX10_clear_X1_clear : GoodIn wsX10_clear (wsV RX10 43 RX1 yX1_clear wsX1_clear) := goodIn_app (goodIn_of _ (by decide +kernel)) ggX10_clear_X1_clear
set_option maxRecDepth 20000 in
theorem ggX10_clear_J7_fill_53178 : GoodIn wsX10_clear wsJ7_fill_53178 := goodIn_r _ [19] (by decide +kernel) (by decide +kernel)
set_option maxRecDepth 20000 in
theorem gX10_clear_J7_fill_53178 : GoodIn wsX10_clear (va_wsS RX10 46 yJ7_fill_53178 wsJ7_fill_53178) := goodIn_app (goodIn_of _ (by decide +kernel)) ggX10_clear_J7_fill_53178
theorem dX10_clear_0 : decode cX10_clear 0 = .ok (.aload_n 0, 1) := by decide +kernel
theorem dX10_clear_1 : decode cX10_clear 1 = .ok (.iconst 0, 1) := by decide +kernel
theorem dX10_clear_2 : decode cX10_clear 2 = .ok (.putfield 37, 3) := by decide +kernel
theorem dX10_clear_5 : decode cX10_clear 5 = .ok (.aload_n 0, 1) := by decide +kernel
theorem dX10_clear_6 : decode cX10_clear 6 = .ok (.getfield 18, 3) := by decide +kernel
theorem dX10_clear_9 : decode cX10_clear 9 = .ok (.iconst 0, 1) := by decide +kernel
theorem dX10_clear_10 : decode cX10_clear 10 = .ok (.putfield 40, 3) := by decide +kernel
theorem dX10_clear_13 : decode cX10_clear 13 = .ok (.aload_n 0, 1) := by decide +kernel
theorem dX10_clear_14 : decode cX10_clear 14 = .ok (.getfield 25, 3) := by decide +kernel
theorem dX10_clear_17 : decode cX10_clear 17 = .ok (.invokevirtual 43, 3) := by decide +kernel
theorem dX10_clear_20 : decode cX10_clear 20 = .ok (.aload_n 0, 1) := by decide +kernel
theorem dX10_clear_21 : decode cX10_clear 21 = .ok (.getfield 29, 3) := by decide +kernel
theorem dX10_clear_24 : decode cX10_clear 24 = .ok (.iconst 0, 1) := by decide +kernel
theorem dX10_clear_25 : decode cX10_clear 25 = .ok (.invokestatic 46, 3) := by decide +kernel
theorem dX10_clear_28 : decode cX10_clear 28 = .ok (.aload_n 0, 1) := by decide +kernel
theorem dX10_clear_29 : decode cX10_clear 29 = .ok (.iconst 1, 1) := by decide +kernel
theorem dX10_clear_30 : decode cX10_clear 30 = .ok (.putfield 33, 3) := by decide +kernel
theorem dX10_clear_33 : decode cX10_clear 33 = .ok (.aload_n 0, 1) := by decide +kernel
theorem dX10_clear_34 : decode cX10_clear 34 = .ok (.iconst 0, 1) := by decide +kernel
theorem dX10_clear_35 : decode cX10_clear 35 = .ok (.putfield 52, 3) := by decide +kernel
theorem dX10_clear_38 : decode cX10_clear 38 = .ok (.aload_n 0, 1) := by decide +kernel
theorem dX10_clear_39 : decode cX10_clear 39 = .ok (.iconst 0, 1) := by decide +kernel
theorem dX10_clear_40 : decode cX10_clear 40 = .ok (.putfield 55, 3) := by decide +kernel
theorem dX10_clear_43 : decode cX10_clear 43 = .ok (.aload_n 0, 1) := by decide +kernel
theorem dX10_clear_44 : decode cX10_clear 44 = .ok (.iconst 0, 1) := by decide +kernel
theorem dX10_clear_45 : decode cX10_clear 45 = .ok (.putfield 58, 3) := by decide +kernel
theorem dX10_clear_48 : decode cX10_clear 48 = .ok (.return_, 1) := by decide +kernel
set_option maxRecDepth 20000 in
theorem ggX10_copy_X3_copy : GoodIn wsX10_copy wsX3_copy := goodIn_r _ [18, 19, 20, 21, 4, 5, 6, 22, 23, 24, 25, 42, 43, 44, 45, 46, 47] (by decide +kernel) (by decide +kernel)
set_option maxRecDepth 20000 in
theorem gX10_copy_X3_copy : GoodIn wsX10_copy (wsV RX10 67 RX3 yX3_copy wsX3_copy) := goodIn_app (goodIn_of _ (by decide +kernel)) ggX10_copy_X3_copy
set_option maxRecDepth 20000 in
theorem ggX10_copy_X1_copy : GoodIn wsX10_copy wsX1_copy := goodIn_r _ [30, 31, 32, 4, 5, 6, 48, 49] (by decide +kernel) (by decide +kernel)
set_option maxRecDepth 20000 in
theorem gX10_copy_X1_copy : GoodIn wsX10_copy (wsV RX10 71 RX1 yX1_copy wsX1_copy) := goodIn_app (goodIn_of _ (by decide +kernel)) ggX10_copy_X1_copy
theorem dX10_copy_0 : decode cX10_copy 0 = .ok (.aload_n 0, 1) := by decide +kernel
theorem dX10_copy_1 : decode cX10_copy 1 = .ok (.aload_n 1, 1) := by decide +kernel
theorem dX10_copy_2 : decode cX10_copy 2 = .ok (.getfield 37, 3) := by decide +kernel
theorem dX10_copy_5 : decode cX10_copy 5 = .ok (.putfield 37, 3) := by decide +kernel
theorem dX10_copy_8 : decode cX10_copy 8 = .ok (.aload_n 1, 1) := by decide +kernel
theorem dX10_copy_9 : decode cX10_copy 9 = .ok (.getfield 9, 3) := by decide +kernel
theorem dX10_copy_12 : decode cX10_copy 12 = .ok (.iconst 0, 1) := by decide +kernel
theorem dX10_copy_13 : decode cX10_copy 13 = .ok (.aload_n 0, 1) := by decide +kernel
theorem dX10_copy_14 : decode cX10_copy 14 = .ok (.getfield 9, 3) := by decide +kernel
theorem dX10_copy_17 : decode cX10_copy 17 = .ok (.iconst 0, 1) := by decide +kernel
theorem dX10_copy_18 : decode cX10_copy 18 = .ok (.bipush 6, 2) := by decide +kernel
theorem dX10_copy_20 : decode cX10_copy 20 = .ok (.invokestatic 61, 3) := by decide +kernel
theorem dX10_copy_23 : decode cX10_copy 23 = .ok (.aload_n 0, 1) := by decide +kernel
theorem dX10_copy_24 : decode cX10_copy 24 = .ok (.getfield 18, 3) := by decide +kernel
theorem dX10_copy_27 : decode cX10_copy 27 = .ok (.aload_n 1, 1) := by decide +kernel
theorem dX10_copy_28 : decode cX10_copy 28 = .ok (.getfield 18, 3) := by decide +kernel
theorem dX10_copy_31 : decode cX10_copy 31 = .ok (.invokevirtual 67, 3) := by decide +kernel
theorem dX10_copy_34 : decode cX10_copy 34 = .ok (.aload_n 0, 1) := by decide +kernel
theorem dX10_copy_35 : decode cX10_copy 35 = .ok (.getfield 25, 3) := by decide +kernel
theorem dX10_copy_38 : decode cX10_copy 38 = .ok (.aload_n 1, 1) := by decide +kernel
theorem dX10_copy_39 : decode cX10_copy 39 = .ok (.getfield 25, 3) := by decide +kernel
theorem dX10_copy_42 : decode cX10_copy 42 = .ok (.invokevirtual 71, 3) := by decide +kernel
theorem dX10_copy_45 : decode cX10_copy 45 = .ok (.aload_n 1, 1) := by decide +kernel
theorem dX10_copy_46 : decode cX10_copy 46 = .ok (.getfield 29, 3) := by decide +kernel
theorem dX10_copy_49 : decode cX10_copy 49 = .ok (.iconst 0, 1) := by decide +kernel
theorem dX10_copy_50 : decode cX10_copy 50 = .ok (.aload_n 0, 1) := by decide +kernel
theorem dX10_copy_51 : decode cX10_copy 51 = .ok (.getfield 29, 3) := by decide +kernel
theorem dX10_copy_54 : decode cX10_copy 54 = .ok (.iconst 0, 1) := by decide +kernel
theorem dX10_copy_55 : decode cX10_copy 55 = .ok (.bipush 6, 2) := by decide +kernel
theorem dX10_copy_57 : decode cX10_copy 57 = .ok (.invokestatic 61, 3) := by decide +kernel
theorem dX10_copy_60 : decode cX10_copy 60 = .ok (.aload_n 0, 1) := by decide +kernel
theorem dX10_copy_61 : decode cX10_copy 61 = .ok (.aload_n 1, 1) := by decide +kernel
theorem dX10_copy_62 : decode cX10_copy 62 = .ok (.getfield 33, 3) := by decide +kernel
theorem dX10_copy_65 : decode cX10_copy 65 = .ok (.putfield 33, 3) := by decide +kernel
theorem dX10_copy_68 : decode cX10_copy 68 = .ok (.aload_n 0, 1) := by decide +kernel
theorem dX10_copy_69 : decode cX10_copy 69 = .ok (.aload_n 1, 1) := by decide +kernel
theorem dX10_copy_70 : decode cX10_copy 70 = .ok (.getfield 52, 3) := by decide +kernel
theorem dX10_copy_73 : decode cX10_copy 73 = .ok (.putfield 52, 3) := by decide +kernel
theorem dX10_copy_76 : decode cX10_copy 76 = .ok (.aload_n 0, 1) := by decide +kernel
theorem dX10_copy_77 : decode cX10_copy 77 = .ok (.aload_n 1, 1) := by decide +kernel
theorem dX10_copy_78 : decode cX10_copy 78 = .ok (.getfield 55, 3) := by decide +kernel
theorem dX10_copy_81 : decode cX10_copy 81 = .ok (.putfield 55, 3) := by decide +kernel
theorem dX10_copy_84 : decode cX10_copy 84 = .ok (.aload_n 0, 1) := by decide +kernel
theorem dX10_copy_85 : decode cX10_copy 85 = .ok (.aload_n 1, 1) := by decide +kernel
theorem dX10_copy_86 : decode cX10_copy 86 = .ok (.getfield 58, 3) := by decide +kernel
theorem dX10_copy_89 : decode cX10_copy 89 = .ok (.putfield 58, 3) := by decide +kernel
theorem dX10_copy_92 : decode cX10_copy 92 = .ok (.return_, 1) := by decide +kernel
theorem dX10_hasMan_0 : decode cX10_hasMan 0 = .ok (.iload_n 1, 1) := by decide +kernel
theorem dX10_hasMan_1 : decode cX10_hasMan 1 = .ok (.ifCond .lt 15, 3) := by decide +kernel
theorem dX10_hasMan_4 : decode cX10_hasMan 4 = .ok (.iload_n 1, 1) := by decide +kernel
theorem dX10_hasMan_5 : decode cX10_hasMan 5 = .ok (.aload_n 0, 1) := by decide +kernel
theorem dX10_hasMan_6 : decode cX10_hasMan 6 = .ok (.getfield 37, 3) := by decide +kernel
theorem dX10_hasMan_9 : decode cX10_hasMan 9 = .ok (.if_icmp .ge 7, 3) := by decide +kernel
theorem dX10_hasMan_16 : decode cX10_hasMan 16 = .ok (.iconst 0, 1) := by decide +kernel
theorem dX10_hasMan_17 : decode cX10_hasMan 17 = .ok (.ireturn, 1) := by decide +kernel
theorem dX10_allMen_0 : decode cX10_allMen 0 = .ok (.iconst 1, 1) := by decide +kernel
theorem dX10_allMen_1 : decode cX10_allMen 1 = .ok (.aload_n 0, 1) := by decide +kernel
theorem dX10_allMen_2 : decode cX10_allMen 2 = .ok (.getfield 37, 3) := by decide +kernel
theorem dX10_allMen_5 : decode cX10_allMen 5 = .ok (.ishl, 1) := by decide +kernel
theorem dX10_allMen_6 : decode cX10_allMen 6 = .ok (.iconst 1, 1) := by decide +kernel
theorem dX10_allMen_7 : decode cX10_allMen 7 = .ok (.isub, 1) := by decide +kernel
theorem dX10_allMen_8 : decode cX10_allMen 8 = .ok (.ireturn, 1) := by decide +kernel
set_option maxRecDepth 20000 in
theorem ggX10_payWith_X10_hasMan : GoodIn wsX10_payWith wsX10_hasMan := goodIn_r _ [8, 9, 54, 55, 56, 57, 58, 59, 60, 61, 62] (by decide +kernel) (by decide +kernel)
set_option maxRecDepth 20000 in
theorem gX10_payWith_X10_hasMan : GoodIn wsX10_payWith (wsV RX10 74 RX10 yX10_hasMan wsX10_hasMan) := goodIn_app (goodIn_of _ (by decide +kernel)) ggX10_payWith_X10_hasMan
theorem dX10_payWith_0 : decode cX10_payWith 0 = .ok (.aload_n 0, 1) := by decide +kernel
theorem dX10_payWith_1 : decode cX10_payWith 1 = .ok (.iload_n 1, 1) := by decide +kernel
theorem dX10_payWith_2 : decode cX10_payWith 2 = .ok (.invokevirtual 74, 3) := by decide +kernel
theorem dX10_payWith_5 : decode cX10_payWith 5 = .ok (.ifCond .eq 27, 3) := by decide +kernel
theorem dX10_payWith_32 : decode cX10_payWith 32 = .ok (.iconst (-1), 1) := by decide +kernel
theorem dX10_payWith_33 : decode cX10_payWith 33 = .ok (.ireturn, 1) := by decide +kernel
set_option maxRecDepth 20000 in
theorem ggX10_sawAbove_X3_has : GoodIn wsX10_sawAbove wsX3_has := goodIn_r _ [8, 9, 56, 57, 58, 59, 60, 61] (by decide +kernel) (by decide +kernel)
set_option maxRecDepth 20000 in
theorem gX10_sawAbove_X3_has : GoodIn wsX10_sawAbove (wsV RX10 78 RX3 yX3_has wsX3_has) := goodIn_app (goodIn_of _ (by decide +kernel)) ggX10_sawAbove_X3_has
theorem dX10_sawAbove_0 : decode cX10_sawAbove 0 = .ok (.aload_n 0, 1) := by decide +kernel
theorem dX10_sawAbove_1 : decode cX10_sawAbove 1 = .ok (.getfield 18, 3) := by decide +kernel
theorem dX10_sawAbove_4 : decode cX10_sawAbove 4 = .ok (.iload_n 1, 1) := by decide +kernel
theorem dX10_sawAbove_5 : decode cX10_sawAbove 5 = .ok (.invokevirtual 78, 3) := by decide +kernel
theorem dX10_sawAbove_8 : decode cX10_sawAbove 8 = .ok (.ifCond .eq 13, 3) := by decide +kernel
theorem dX10_sawAbove_21 : decode cX10_sawAbove 21 = .ok (.iconst (-1), 1) := by decide +kernel
theorem dX10_sawAbove_22 : decode cX10_sawAbove 22 = .ok (.ireturn, 1) := by decide +kernel
set_option maxRecDepth 20000 in
theorem ggX10_spliceOnto_X3_has : GoodIn wsX10_spliceOnto wsX3_has := goodIn_r _ [6, 7, 50, 51, 52, 53, 54, 55] (by decide +kernel) (by decide +kernel)
set_option maxRecDepth 20000 in
theorem gX10_spliceOnto_X3_has : GoodIn wsX10_spliceOnto (wsV RX10 78 RX3 yX3_has wsX3_has) := goodIn_app (goodIn_of _ (by decide +kernel)) ggX10_spliceOnto_X3_has
theorem dX10_spliceOnto_0 : decode cX10_spliceOnto 0 = .ok (.aload_n 0, 1) := by decide +kernel
theorem dX10_spliceOnto_1 : decode cX10_spliceOnto 1 = .ok (.getfield 18, 3) := by decide +kernel
theorem dX10_spliceOnto_4 : decode cX10_spliceOnto 4 = .ok (.iload_n 1, 1) := by decide +kernel
theorem dX10_spliceOnto_5 : decode cX10_spliceOnto 5 = .ok (.invokevirtual 78, 3) := by decide +kernel
theorem dX10_spliceOnto_8 : decode cX10_spliceOnto 8 = .ok (.ifCond .eq 14, 3) := by decide +kernel
theorem dX10_spliceOnto_22 : decode cX10_spliceOnto 22 = .ok (.iconst (-1), 1) := by decide +kernel
theorem dX10_spliceOnto_23 : decode cX10_spliceOnto 23 = .ok (.ireturn, 1) := by decide +kernel
set_option maxRecDepth 20000 in
theorem ggX10_climbUp_X10_hasMan : GoodIn wsX10_climbUp wsX10_hasMan := goodIn_r _ [6, 7, 47, 48, 49, 50, 51, 52, 53, 54, 55] (by decide +kernel) (by decide +kernel)
set_option maxRecDepth 20000 in
theorem gX10_climbUp_X10_hasMan : GoodIn wsX10_climbUp (wsV RX10 74 RX10 yX10_hasMan wsX10_hasMan) := goodIn_app (goodIn_of _ (by decide +kernel)) ggX10_climbUp_X10_hasMan
theorem dX10_climbUp_0 : decode cX10_climbUp 0 = .ok (.aload_n 0, 1) := by decide +kernel
theorem dX10_climbUp_1 : decode cX10_climbUp 1 = .ok (.iload_n 1, 1) := by decide +kernel
theorem dX10_climbUp_2 : decode cX10_climbUp 2 = .ok (.invokevirtual 74, 3) := by decide +kernel
theorem dX10_climbUp_5 : decode cX10_climbUp 5 = .ok (.ifCond .eq 14, 3) := by decide +kernel
theorem dX10_climbUp_19 : decode cX10_climbUp 19 = .ok (.iconst (-1), 1) := by decide +kernel
theorem dX10_climbUp_20 : decode cX10_climbUp 20 = .ok (.ireturn, 1) := by decide +kernel
set_option maxRecDepth 20000 in
theorem ggX10_burnDown_X3_has : GoodIn wsX10_burnDown wsX3_has := goodIn_r _ [6, 7, 30, 31, 32, 33, 34, 35] (by decide +kernel) (by decide +kernel)
set_option maxRecDepth 20000 in
theorem gX10_burnDown_X3_has : GoodIn wsX10_burnDown (wsV RX10 78 RX3 yX3_has wsX3_has) := goodIn_app (goodIn_of _ (by decide +kernel)) ggX10_burnDown_X3_has
theorem dX10_burnDown_0 : decode cX10_burnDown 0 = .ok (.aload_n 0, 1) := by decide +kernel
theorem dX10_burnDown_1 : decode cX10_burnDown 1 = .ok (.getfield 18, 3) := by decide +kernel
theorem dX10_burnDown_4 : decode cX10_burnDown 4 = .ok (.iload_n 1, 1) := by decide +kernel
theorem dX10_burnDown_5 : decode cX10_burnDown 5 = .ok (.invokevirtual 78, 3) := by decide +kernel
theorem dX10_burnDown_8 : decode cX10_burnDown 8 = .ok (.ifCond .ne 5, 3) := by decide +kernel
theorem dX10_burnDown_11 : decode cX10_burnDown 11 = .ok (.iconst (-1), 1) := by decide +kernel
theorem dX10_burnDown_12 : decode cX10_burnDown 12 = .ok (.ireturn, 1) := by decide +kernel
set_option maxRecDepth 20000 in
theorem ggX10_paintRung_X3_has : GoodIn wsX10_paintRung wsX3_has := goodIn_r _ [6, 7, 34, 35, 36, 37, 38, 39] (by decide +kernel) (by decide +kernel)
set_option maxRecDepth 20000 in
theorem gX10_paintRung_X3_has : GoodIn wsX10_paintRung (wsV RX10 78 RX3 yX3_has wsX3_has) := goodIn_app (goodIn_of _ (by decide +kernel)) ggX10_paintRung_X3_has
theorem dX10_paintRung_0 : decode cX10_paintRung 0 = .ok (.aload_n 0, 1) := by decide +kernel
theorem dX10_paintRung_1 : decode cX10_paintRung 1 = .ok (.getfield 18, 3) := by decide +kernel
theorem dX10_paintRung_4 : decode cX10_paintRung 4 = .ok (.iload_n 1, 1) := by decide +kernel
theorem dX10_paintRung_5 : decode cX10_paintRung 5 = .ok (.invokevirtual 78, 3) := by decide +kernel
theorem dX10_paintRung_8 : decode cX10_paintRung 8 = .ok (.ifCond .eq 13, 3) := by decide +kernel
theorem dX10_paintRung_21 : decode cX10_paintRung 21 = .ok (.iconst (-1), 1) := by decide +kernel
theorem dX10_paintRung_22 : decode cX10_paintRung 22 = .ok (.ireturn, 1) := by decide +kernel
theorem dX10_raiseTaxes_0 : decode cX10_raiseTaxes 0 = .ok (.iconst 0, 1) := by decide +kernel
theorem dX10_raiseTaxes_1 : decode cX10_raiseTaxes 1 = .ok (.istore_n 1, 1) := by decide +kernel
theorem dX10_raiseTaxes_2 : decode cX10_raiseTaxes 2 = .ok (.iconst 0, 1) := by decide +kernel
theorem dX10_raiseTaxes_3 : decode cX10_raiseTaxes 3 = .ok (.istore_n 2, 1) := by decide +kernel
theorem dX10_raiseTaxes_4 : decode cX10_raiseTaxes 4 = .ok (.iload_n 2, 1) := by decide +kernel
theorem dX10_raiseTaxes_5 : decode cX10_raiseTaxes 5 = .ok (.aload_n 0, 1) := by decide +kernel
theorem dX10_raiseTaxes_6 : decode cX10_raiseTaxes 6 = .ok (.getfield 18, 3) := by decide +kernel
theorem dX10_raiseTaxes_9 : decode cX10_raiseTaxes 9 = .ok (.getfield 40, 3) := by decide +kernel
theorem dX10_raiseTaxes_12 : decode cX10_raiseTaxes 12 = .ok (.if_icmp .ge 31, 3) := by decide +kernel
theorem dX10_raiseTaxes_43 : decode cX10_raiseTaxes 43 = .ok (.aload_n 0, 1) := by decide +kernel
theorem dX10_raiseTaxes_44 : decode cX10_raiseTaxes 44 = .ok (.dup, 1) := by decide +kernel
theorem dX10_raiseTaxes_45 : decode cX10_raiseTaxes 45 = .ok (.getfield 55, 3) := by decide +kernel
theorem dX10_raiseTaxes_48 : decode cX10_raiseTaxes 48 = .ok (.iload_n 1, 1) := by decide +kernel
theorem dX10_raiseTaxes_49 : decode cX10_raiseTaxes 49 = .ok (.iadd, 1) := by decide +kernel
theorem dX10_raiseTaxes_50 : decode cX10_raiseTaxes 50 = .ok (.putfield 55, 3) := by decide +kernel
theorem dX10_raiseTaxes_53 : decode cX10_raiseTaxes 53 = .ok (.iload_n 1, 1) := by decide +kernel
theorem dX10_raiseTaxes_54 : decode cX10_raiseTaxes 54 = .ok (.ifCond .ne 7, 3) := by decide +kernel
theorem dX10_raiseTaxes_57 : decode cX10_raiseTaxes 57 = .ok (.iconst 1, 1) := by decide +kernel
theorem dX10_raiseTaxes_58 : decode cX10_raiseTaxes 58 = .ok (.goto 4, 3) := by decide +kernel
theorem dX10_raiseTaxes_62 : decode cX10_raiseTaxes 62 = .ok (.ireturn, 1) := by decide +kernel
theorem dX10_brokeBy_0 : decode cX10_brokeBy 0 = .ok (.iconst 0, 1) := by decide +kernel
theorem dX10_brokeBy_1 : decode cX10_brokeBy 1 = .ok (.istore_n 2, 1) := by decide +kernel
theorem dX10_brokeBy_2 : decode cX10_brokeBy 2 = .ok (.iconst 0, 1) := by decide +kernel
theorem dX10_brokeBy_3 : decode cX10_brokeBy 3 = .ok (.istore_n 3, 1) := by decide +kernel
theorem dX10_brokeBy_4 : decode cX10_brokeBy 4 = .ok (.iload_n 3, 1) := by decide +kernel
theorem dX10_brokeBy_5 : decode cX10_brokeBy 5 = .ok (.bipush 6, 2) := by decide +kernel
theorem dX10_brokeBy_7 : decode cX10_brokeBy 7 = .ok (.if_icmp .ge 75, 3) := by decide +kernel
theorem dX10_brokeBy_10 : decode cX10_brokeBy 10 = .ok (.iload_n 2, 1) := by decide +kernel
theorem dX10_brokeBy_11 : decode cX10_brokeBy 11 = .ok (.istore 4, 2) := by decide +kernel
theorem dX10_brokeBy_13 : decode cX10_brokeBy 13 = .ok (.iconst 0, 1) := by decide +kernel
theorem dX10_brokeBy_14 : decode cX10_brokeBy 14 = .ok (.istore 5, 2) := by decide +kernel
theorem dX10_brokeBy_16 : decode cX10_brokeBy 16 = .ok (.iload 5, 2) := by decide +kernel
theorem dX10_brokeBy_18 : decode cX10_brokeBy 18 = .ok (.aload_n 0, 1) := by decide +kernel
theorem dX10_brokeBy_19 : decode cX10_brokeBy 19 = .ok (.getfield 37, 3) := by decide +kernel
theorem dX10_brokeBy_22 : decode cX10_brokeBy 22 = .ok (.if_icmp .ge 51, 3) := by decide +kernel
theorem dX10_brokeBy_73 : decode cX10_brokeBy 73 = .ok (.iload 4, 2) := by decide +kernel
theorem dX10_brokeBy_75 : decode cX10_brokeBy 75 = .ok (.istore_n 2, 1) := by decide +kernel
theorem dX10_brokeBy_76 : decode cX10_brokeBy 76 = .ok (.iinc 3 1, 3) := by decide +kernel
theorem dX10_brokeBy_79 : decode cX10_brokeBy 79 = .ok (.goto (-75), 3) := by decide +kernel
theorem dX10_brokeBy_82 : decode cX10_brokeBy 82 = .ok (.iload_n 2, 1) := by decide +kernel
theorem dX10_brokeBy_83 : decode cX10_brokeBy 83 = .ok (.ireturn, 1) := by decide +kernel
theorem inX10_hasMan_X10 : ∀ w ∈ wsX100, w ∈ wsX10_hasMan := by decide +kernel
theorem inX10_sawAbove_X10 : ∀ w ∈ wsX100, w ∈ wsX10_sawAbove := by decide +kernel
theorem inX10_spliceOnto_X10 : ∀ w ∈ wsX100, w ∈ wsX10_spliceOnto := by decide +kernel
theorem inX10_burnDown_X10 : ∀ w ∈ wsX100, w ∈ wsX10_burnDown := by decide +kernel
theorem inX10_paintRung_X10 : ∀ w ∈ wsX100, w ∈ wsX10_paintRung := by decide +kernel
theorem inX10_raiseTaxes_X10 : ∀ w ∈ wsX100, w ∈ wsX10_raiseTaxes := by decide +kernel
theorem inX10_raiseTaxes_X3 : ∀ w ∈ wsX30, w ∈ wsX10_raiseTaxes := by decide +kernel
theorem inX10_brokeBy_X10 : ∀ w ∈ wsX100, w ∈ wsX10_brokeBy := by decide +kernel
theorem inX10_allMen_X10 : ∀ w ∈ wsX100, w ∈ wsX10_allMen := by decide +kernel
theorem inX10_clear_X10 : ∀ w ∈ wsX100, w ∈ wsX10_clear := by decide +kernel
theorem inX10_clear_X3 : ∀ w ∈ wsX30, w ∈ wsX10_clear := by decide +kernel
theorem inX10_copy_X10 : ∀ w ∈ wsX100, w ∈ wsX10_copy := by decide +kernel
set_option maxHeartbeats 4000000 in
set_option maxRecDepth 100000 in
theorem cT_hasMan (l : Launch) (D : va_G) (k : Nat → ClassId) (a0 : Nat) (a1 : Nat) (a2 : Nat) (a8 : Nat) (a11 : Nat) (p0 : Int32) : g_Ci l yX10_hasMan wsX10_hasMan ({ frames := 0, cells := 0, slots := 0, locals := 0 }) D k g_E0 [.ref a0, .int p0] [(a0, .inr (8, [.int 0, .ref a1, .ref a2, .ref a8, .ref a11, .int 1, .int 0, .int 0, .int 0]))] 0 (fun u => [(a0, .inr (8, [.int 0, .ref a1, .ref a2, .ref a8, .ref a11, .int 1, .int 0, .int 0, .int 0]))]) 0 0 := by
  intro sz
  refine Met.ofW (cc := cX10_hasMan) (maxL := 2) (ret := (some .boolean)) (by decide) rfl ?_
  intro p e s m args below meth c s₁ B hml hv
  obtain ⟨rfl, hsz, hP, hK, hD0, hE⟩ := hv
  have hx := B.exec
  have hb := B.bytes
  have hr := B.returns
  have hts := atoms_spec (ws := wsX10_hasMan) B.pre
  have hown : s.vm.findClass RX10 = some m.cls := findClass_of_methodNamed B.named
  have hlocks := B.notSynchronized
  subst hsz
  have hD := hD0.self (sz := s.heap.size)
  generalize hAe : va_A [(a0, .inr (8, [.int 0, .ref a1, .ref a2, .ref a8, .ref a11, .int 1, .int 0, .int 0, .int 0]))] s.heap.size = A at hD ⊢
  have hA : ∀ q : Nat, s.heap.size ≤ q → A q := fun q h => by rw [← hAe]; exact Or.inr h
  have hS : va_S A s.heap s.heap [] := va_S.rf
  have hP : va_P D vwCl [(a0, .inr (8, [.int 0, .ref a1, .ref a2, .ref a8, .ref a11, .int 1, .int 0, .int 0, .int 0]))] s.heap := hP
  have hl := lv_entry ([.ref a0, .int p0]) (n := 2) (Nat.le_of_ble_eq_true rfl)
  rw [lg_entry_eq]
  generalize (lg_sl ([.ref a0, .int p0]) ++ List.replicate (2 - (lg_sl ([.ref a0, .int p0])).length) Slot.unset).toArray = ls at hl ⊢
  have hl : lv_has ls 2 [(0, .ref a0), (1, .int p0)] := hl
  refine lv_iload_n hx hb dX10_hasMan_0 rfl (lv_at hl 1 rfl) ?_
  refine lv_if_lt (tgt := 16) hx hb dX10_hasMan_1 (by decide) (fun c1 => ?_) (fun c1 => ?_)
  · refine lv_iconst (v := 0) hx hb dX10_hasMan_16 (by decide) ?_
    have hP := hP.sub (ws' := [(a0, .inr (8, [.int 0, .ref a1, .ref a2, .ref a8, .ref a11, .int 1, .int 0, .int 0, .int 0]))]) [0] rfl
    have hD := hD.sub (ws' := [(a0, .inr (8, [.int 0, .ref a1, .ref a2, .ref a8, .ref a11, .int 1, .int 0, .int 0, .int 0]))]) [0] (by decide) rfl
    exact g_iret hx hb hr rfl hlocks hK (fun _ => 0) hP hD hS rfl dX10_hasMan_17 ⟨Nat.le_of_ble_eq_true rfl, Nat.le_of_ble_eq_true rfl⟩
  · refine lv_iload_n hx hb dX10_hasMan_4 rfl (lv_at hl 1 rfl) ?_
    refine lv_aload_n hx hb dX10_hasMan_5 rfl (lv_at hl 0 rfl) ?_
    refine va_get (D := D) (ci := 8) (v := .int 0) (C := RX10) (T := TX10) (N := 9) hx hb hts inX10_hasMan_X10 hown hK hP 0 rfl rfl 0 (by decide) (hts (.fieldLink RX10 37 "RungMoney$Town" "men" "I") (by decide +kernel)) (fun _ h9 => h9) rfl dX10_hasMan_6 ?_
    refine lv_icmp_ge (tgt := 16) hx hb dX10_hasMan_9 (by decide) (fun _ => ?_) (fun c2 => False.elim (by simp only [fa_lt, fa_le, fa_eq, t_0] at c1 c2; omega))
    refine lv_iconst (v := 0) hx hb dX10_hasMan_16 (by decide) ?_
    have hP := hP.sub (ws' := [(a0, .inr (8, [.int 0, .ref a1, .ref a2, .ref a8, .ref a11, .int 1, .int 0, .int 0, .int 0]))]) [0] rfl
    have hD := hD.sub (ws' := [(a0, .inr (8, [.int 0, .ref a1, .ref a2, .ref a8, .ref a11, .int 1, .int 0, .int 0, .int 0]))]) [0] (by decide) rfl
    exact g_iret hx hb hr rfl hlocks hK (fun _ => 0) hP hD hS rfl dX10_hasMan_17 ⟨Nat.le_of_ble_eq_true rfl, Nat.le_of_ble_eq_true rfl⟩
set_option maxHeartbeats 4000000 in
set_option maxRecDepth 100000 in
theorem cT_payWith (l : Launch) (D : va_G) (k : Nat → ClassId) (a0 : Nat) (a1 : Nat) (a2 : Nat) (a3 : Nat) (a4 : Nat) (a5 : Nat) (a6 : Nat) (a7 : Nat) (a8 : Nat) (a11 : Nat) (p0 : Int32) (p1 : Int32) (p2 : Int32) : g_Ci l yX10_payWith wsX10_payWith ({ frames := 1, cells := 0, slots := 0, locals := 21 }) D k g_E0 [.ref a0, .int p0, .int p1, .int p2] [(a0, .inr (8, [.int 0, .ref a1, .ref a2, .ref a8, .ref a11, .int 1, .int 0, .int 0, .int 0])), (a2, .inr (1, [.int 0, .ref a3, .ref a4, .ref a5, .ref a6, .ref a7]))] (-1) (fun u => [(a0, .inr (8, [.int 0, .ref a1, .ref a2, .ref a8, .ref a11, .int 1, .int 0, .int 0, .int 0])), (a2, .inr (1, [.int 0, .ref a3, .ref a4, .ref a5, .ref a6, .ref a7]))]) 0 0 := by
  intro sz
  refine Met.ofW (cc := cX10_payWith) (maxL := 6) (ret := (some .int)) (by decide) rfl ?_
  intro p e s m args below meth c s₁ B hml hv
  obtain ⟨rfl, hsz, hP, hK, hD0, hE⟩ := hv
  have hx := B.exec
  have hb := B.bytes
  have hr := B.returns
  have hts := atoms_spec (ws := wsX10_payWith) B.pre
  have hown : s.vm.findClass RX10 = some m.cls := findClass_of_methodNamed B.named
  have hlocks := B.notSynchronized
  subst hsz
  have hD := hD0.self (sz := s.heap.size)
  generalize hAe : va_A [(a0, .inr (8, [.int 0, .ref a1, .ref a2, .ref a8, .ref a11, .int 1, .int 0, .int 0, .int 0])), (a2, .inr (1, [.int 0, .ref a3, .ref a4, .ref a5, .ref a6, .ref a7]))] s.heap.size = A at hD ⊢
  have hA : ∀ q : Nat, s.heap.size ≤ q → A q := fun q h => by rw [← hAe]; exact Or.inr h
  have hS : va_S A s.heap s.heap [] := va_S.rf
  have hP : va_P D vwCl [(a0, .inr (8, [.int 0, .ref a1, .ref a2, .ref a8, .ref a11, .int 1, .int 0, .int 0, .int 0])), (a2, .inr (1, [.int 0, .ref a3, .ref a4, .ref a5, .ref a6, .ref a7]))] s.heap := hP
  have hl := lv_entry ([.ref a0, .int p0, .int p1, .int p2]) (n := 6) (Nat.le_of_ble_eq_true rfl)
  rw [lg_entry_eq]
  generalize (lg_sl ([.ref a0, .int p0, .int p1, .int p2]) ++ List.replicate (6 - (lg_sl ([.ref a0, .int p0, .int p1, .int p2])).length) Slot.unset).toArray = ls at hl ⊢
  have hl : lv_has ls 6 [(0, .ref a0), (1, .int p0), (2, .int p1), (3, .int p2)] := hl
  refine lv_aload_n hx hb dX10_payWith_0 rfl (lv_at hl 0 rfl) ?_
  refine lv_iload_n hx hb dX10_payWith_1 rfl (lv_at hl 1 rfl) ?_
  refine g_iV (As := [.int p0]) (rest := []) (wr := [(a2, .inr (1, [.int 0, .ref a3, .ref a4, .ref a5, .ref a6, .ref a7]))]) ⟨hx, hb, hml, hown, hts⟩ (cT_hasMan l D k a0 a1 a2 a8 a11 p0) (cwV 1 hts gX10_payWith_X10_hasMan rfl rfl rfl (by decide +kernel) ⟨Nat.le_of_ble_eq_true rfl, Nat.le_of_ble_eq_true rfl⟩) g_E0_ok (fun _ _ _ => trivial) hK hP hD hS hA 0 8 rfl rfl rfl [0] [1] rfl rfl (by decide) rfl hl.1 rfl (Nat.le_of_ble_eq_true rfl) dX10_payWith_2 ⟨Nat.le_of_ble_eq_true rfl, Nat.le_of_ble_eq_true rfl⟩ (fun u1 H locs hP hD hS => ?_)
  have hP : va_P D vwCl [(a2, .inr (1, [.int 0, .ref a3, .ref a4, .ref a5, .ref a6, .ref a7])), (a0, .inr (8, [.int 0, .ref a1, .ref a2, .ref a8, .ref a11, .int 1, .int 0, .int 0, .int 0]))] H := hP
  have hD : va_D A [(a2, .inr (1, [.int 0, .ref a3, .ref a4, .ref a5, .ref a6, .ref a7])), (a0, .inr (8, [.int 0, .ref a1, .ref a2, .ref a8, .ref a11, .int 1, .int 0, .int 0, .int 0]))] := hD
  refine lv_if_eq (tgt := 32) hx hb dX10_payWith_5 (by decide) (fun _ => ?_) (fun h9 => absurd (by decide) h9)
  refine lv_iconst (v := (-1)) hx hb dX10_payWith_32 (by decide) ?_
  have hP := hP.sub (ws' := [(a0, .inr (8, [.int 0, .ref a1, .ref a2, .ref a8, .ref a11, .int 1, .int 0, .int 0, .int 0])), (a2, .inr (1, [.int 0, .ref a3, .ref a4, .ref a5, .ref a6, .ref a7]))]) [1, 0] rfl
  have hD := hD.sub (ws' := [(a0, .inr (8, [.int 0, .ref a1, .ref a2, .ref a8, .ref a11, .int 1, .int 0, .int 0, .int 0])), (a2, .inr (1, [.int 0, .ref a3, .ref a4, .ref a5, .ref a6, .ref a7]))]) [1, 0] (by decide) rfl
  exact g_iret hx hb hr rfl hlocks hK (fun _ => 0) hP hD hS rfl dX10_payWith_33 ⟨Nat.le_of_ble_eq_true rfl, Nat.le_of_ble_eq_true rfl⟩
set_option maxHeartbeats 4000000 in
set_option maxRecDepth 100000 in
theorem cT_sawAbove (l : Launch) (D : va_G) (k : Nat → ClassId) (a0 : Nat) (a1 : Nat) (a2 : Nat) (a3 : Nat) (a4 : Nat) (a5 : Nat) (a6 : Nat) (a7 : Nat) (a8 : Nat) (a11 : Nat) (p0 : Int32) (p1 : Int32) : g_Ci l yX10_sawAbove wsX10_sawAbove ({ frames := 1, cells := 0, slots := 0, locals := 21 }) D k g_E0 [.ref a0, .int p0, .int p1] [(a0, .inr (8, [.int 0, .ref a1, .ref a2, .ref a8, .ref a11, .int 1, .int 0, .int 0, .int 0])), (a2, .inr (1, [.int 0, .ref a3, .ref a4, .ref a5, .ref a6, .ref a7]))] (-1) (fun u => [(a0, .inr (8, [.int 0, .ref a1, .ref a2, .ref a8, .ref a11, .int 1, .int 0, .int 0, .int 0])), (a2, .inr (1, [.int 0, .ref a3, .ref a4, .ref a5, .ref a6, .ref a7]))]) 0 0 := by
  intro sz
  refine Met.ofW (cc := cX10_sawAbove) (maxL := 3) (ret := (some .int)) (by decide) rfl ?_
  intro p e s m args below meth c s₁ B hml hv
  obtain ⟨rfl, hsz, hP, hK, hD0, hE⟩ := hv
  have hx := B.exec
  have hb := B.bytes
  have hr := B.returns
  have hts := atoms_spec (ws := wsX10_sawAbove) B.pre
  have hown : s.vm.findClass RX10 = some m.cls := findClass_of_methodNamed B.named
  have hlocks := B.notSynchronized
  subst hsz
  have hD := hD0.self (sz := s.heap.size)
  generalize hAe : va_A [(a0, .inr (8, [.int 0, .ref a1, .ref a2, .ref a8, .ref a11, .int 1, .int 0, .int 0, .int 0])), (a2, .inr (1, [.int 0, .ref a3, .ref a4, .ref a5, .ref a6, .ref a7]))] s.heap.size = A at hD ⊢
  have hA : ∀ q : Nat, s.heap.size ≤ q → A q := fun q h => by rw [← hAe]; exact Or.inr h
  have hS : va_S A s.heap s.heap [] := va_S.rf
  have hP : va_P D vwCl [(a0, .inr (8, [.int 0, .ref a1, .ref a2, .ref a8, .ref a11, .int 1, .int 0, .int 0, .int 0])), (a2, .inr (1, [.int 0, .ref a3, .ref a4, .ref a5, .ref a6, .ref a7]))] s.heap := hP
  have hl := lv_entry ([.ref a0, .int p0, .int p1]) (n := 3) (Nat.le_of_ble_eq_true rfl)
  rw [lg_entry_eq]
  generalize (lg_sl ([.ref a0, .int p0, .int p1]) ++ List.replicate (3 - (lg_sl ([.ref a0, .int p0, .int p1])).length) Slot.unset).toArray = ls at hl ⊢
  have hl : lv_has ls 3 [(0, .ref a0), (1, .int p0), (2, .int p1)] := hl
  refine lv_aload_n hx hb dX10_sawAbove_0 rfl (lv_at hl 0 rfl) ?_
  refine va_get (D := D) (ci := 8) (v := .ref a2) (C := RX10) (T := TX10) (N := 9) hx hb hts inX10_sawAbove_X10 hown hK hP 0 rfl rfl 2 (by decide) (hts (.fieldLink RX10 18 "RungMoney$Town" "ladders" "LRungMoney$Ladders;") (by decide +kernel)) (fun _ h9 => h9) rfl dX10_sawAbove_1 ?_
  refine lv_iload_n hx hb dX10_sawAbove_4 rfl (lv_at hl 1 rfl) ?_
  refine g_iV (As := [.int p0]) (rest := []) (wr := [(a0, .inr (8, [.int 0, .ref a1, .ref a2, .ref a8, .ref a11, .int 1, .int 0, .int 0, .int 0]))]) ⟨hx, hb, hml, hown, hts⟩ (cL_has l D k a2 a3 a4 a5 a6 a7 p0) (cwV 1 hts gX10_sawAbove_X3_has rfl rfl rfl (by decide +kernel) ⟨Nat.le_of_ble_eq_true rfl, Nat.le_of_ble_eq_true rfl⟩) g_E0_ok (fun _ _ _ => trivial) hK hP hD hS hA 1 1 rfl rfl rfl [1] [0] rfl rfl (by decide) rfl hl.1 rfl (Nat.le_of_ble_eq_true rfl) dX10_sawAbove_5 ⟨Nat.le_of_ble_eq_true rfl, Nat.le_of_ble_eq_true rfl⟩ (fun u1 H locs hP hD hS => ?_)
  have hP : va_P D vwCl [(a0, .inr (8, [.int 0, .ref a1, .ref a2, .ref a8, .ref a11, .int 1, .int 0, .int 0, .int 0])), (a2, .inr (1, [.int 0, .ref a3, .ref a4, .ref a5, .ref a6, .ref a7]))] H := hP
  have hD : va_D A [(a0, .inr (8, [.int 0, .ref a1, .ref a2, .ref a8, .ref a11, .int 1, .int 0, .int 0, .int 0])), (a2, .inr (1, [.int 0, .ref a3, .ref a4, .ref a5, .ref a6, .ref a7]))] := hD
  refine lv_if_eq (tgt := 21) hx hb dX10_sawAbove_8 (by decide) (fun _ => ?_) (fun h9 => absurd (by decide) h9)
  refine lv_iconst (v := (-1)) hx hb dX10_sawAbove_21 (by decide) ?_
  have hP := hP.sub (ws' := [(a0, .inr (8, [.int 0, .ref a1, .ref a2, .ref a8, .ref a11, .int 1, .int 0, .int 0, .int 0])), (a2, .inr (1, [.int 0, .ref a3, .ref a4, .ref a5, .ref a6, .ref a7]))]) [0, 1] rfl
  have hD := hD.sub (ws' := [(a0, .inr (8, [.int 0, .ref a1, .ref a2, .ref a8, .ref a11, .int 1, .int 0, .int 0, .int 0])), (a2, .inr (1, [.int 0, .ref a3, .ref a4, .ref a5, .ref a6, .ref a7]))]) [0, 1] (by decide) rfl
  exact g_iret hx hb hr rfl hlocks hK (fun _ => 0) hP hD hS rfl dX10_sawAbove_22 ⟨Nat.le_of_ble_eq_true rfl, Nat.le_of_ble_eq_true rfl⟩
set_option maxHeartbeats 4000000 in
set_option maxRecDepth 100000 in
theorem cT_spliceOnto (l : Launch) (D : va_G) (k : Nat → ClassId) (a0 : Nat) (a1 : Nat) (a2 : Nat) (a3 : Nat) (a4 : Nat) (a5 : Nat) (a6 : Nat) (a7 : Nat) (a8 : Nat) (a11 : Nat) (p0 : Int32) (p1 : Int32) : g_Ci l yX10_spliceOnto wsX10_spliceOnto ({ frames := 1, cells := 0, slots := 0, locals := 21 }) D k g_E0 [.ref a0, .int p0, .int p1] [(a0, .inr (8, [.int 0, .ref a1, .ref a2, .ref a8, .ref a11, .int 1, .int 0, .int 0, .int 0])), (a2, .inr (1, [.int 0, .ref a3, .ref a4, .ref a5, .ref a6, .ref a7]))] (-1) (fun u => [(a0, .inr (8, [.int 0, .ref a1, .ref a2, .ref a8, .ref a11, .int 1, .int 0, .int 0, .int 0])), (a2, .inr (1, [.int 0, .ref a3, .ref a4, .ref a5, .ref a6, .ref a7]))]) 0 0 := by
  intro sz
  refine Met.ofW (cc := cX10_spliceOnto) (maxL := 3) (ret := (some .int)) (by decide) rfl ?_
  intro p e s m args below meth c s₁ B hml hv
  obtain ⟨rfl, hsz, hP, hK, hD0, hE⟩ := hv
  have hx := B.exec
  have hb := B.bytes
  have hr := B.returns
  have hts := atoms_spec (ws := wsX10_spliceOnto) B.pre
  have hown : s.vm.findClass RX10 = some m.cls := findClass_of_methodNamed B.named
  have hlocks := B.notSynchronized
  subst hsz
  have hD := hD0.self (sz := s.heap.size)
  generalize hAe : va_A [(a0, .inr (8, [.int 0, .ref a1, .ref a2, .ref a8, .ref a11, .int 1, .int 0, .int 0, .int 0])), (a2, .inr (1, [.int 0, .ref a3, .ref a4, .ref a5, .ref a6, .ref a7]))] s.heap.size = A at hD ⊢
  have hA : ∀ q : Nat, s.heap.size ≤ q → A q := fun q h => by rw [← hAe]; exact Or.inr h
  have hS : va_S A s.heap s.heap [] := va_S.rf
  have hP : va_P D vwCl [(a0, .inr (8, [.int 0, .ref a1, .ref a2, .ref a8, .ref a11, .int 1, .int 0, .int 0, .int 0])), (a2, .inr (1, [.int 0, .ref a3, .ref a4, .ref a5, .ref a6, .ref a7]))] s.heap := hP
  have hl := lv_entry ([.ref a0, .int p0, .int p1]) (n := 3) (Nat.le_of_ble_eq_true rfl)
  rw [lg_entry_eq]
  generalize (lg_sl ([.ref a0, .int p0, .int p1]) ++ List.replicate (3 - (lg_sl ([.ref a0, .int p0, .int p1])).length) Slot.unset).toArray = ls at hl ⊢
  have hl : lv_has ls 3 [(0, .ref a0), (1, .int p0), (2, .int p1)] := hl
  refine lv_aload_n hx hb dX10_spliceOnto_0 rfl (lv_at hl 0 rfl) ?_
  refine va_get (D := D) (ci := 8) (v := .ref a2) (C := RX10) (T := TX10) (N := 9) hx hb hts inX10_spliceOnto_X10 hown hK hP 0 rfl rfl 2 (by decide) (hts (.fieldLink RX10 18 "RungMoney$Town" "ladders" "LRungMoney$Ladders;") (by decide +kernel)) (fun _ h9 => h9) rfl dX10_spliceOnto_1 ?_
  refine lv_iload_n hx hb dX10_spliceOnto_4 rfl (lv_at hl 1 rfl) ?_
  refine g_iV (As := [.int p0]) (rest := []) (wr := [(a0, .inr (8, [.int 0, .ref a1, .ref a2, .ref a8, .ref a11, .int 1, .int 0, .int 0, .int 0]))]) ⟨hx, hb, hml, hown, hts⟩ (cL_has l D k a2 a3 a4 a5 a6 a7 p0) (cwV 1 hts gX10_spliceOnto_X3_has rfl rfl rfl (by decide +kernel) ⟨Nat.le_of_ble_eq_true rfl, Nat.le_of_ble_eq_true rfl⟩) g_E0_ok (fun _ _ _ => trivial) hK hP hD hS hA 1 1 rfl rfl rfl [1] [0] rfl rfl (by decide) rfl hl.1 rfl (Nat.le_of_ble_eq_true rfl) dX10_spliceOnto_5 ⟨Nat.le_of_ble_eq_true rfl, Nat.le_of_ble_eq_true rfl⟩ (fun u1 H locs hP hD hS => ?_)
  have hP : va_P D vwCl [(a0, .inr (8, [.int 0, .ref a1, .ref a2, .ref a8, .ref a11, .int 1, .int 0, .int 0, .int 0])), (a2, .inr (1, [.int 0, .ref a3, .ref a4, .ref a5, .ref a6, .ref a7]))] H := hP
  have hD : va_D A [(a0, .inr (8, [.int 0, .ref a1, .ref a2, .ref a8, .ref a11, .int 1, .int 0, .int 0, .int 0])), (a2, .inr (1, [.int 0, .ref a3, .ref a4, .ref a5, .ref a6, .ref a7]))] := hD
  refine lv_if_eq (tgt := 22) hx hb dX10_spliceOnto_8 (by decide) (fun _ => ?_) (fun h9 => absurd (by decide) h9)
  refine lv_iconst (v := (-1)) hx hb dX10_spliceOnto_22 (by decide) ?_
  have hP := hP.sub (ws' := [(a0, .inr (8, [.int 0, .ref a1, .ref a2, .ref a8, .ref a11, .int 1, .int 0, .int 0, .int 0])), (a2, .inr (1, [.int 0, .ref a3, .ref a4, .ref a5, .ref a6, .ref a7]))]) [0, 1] rfl
  have hD := hD.sub (ws' := [(a0, .inr (8, [.int 0, .ref a1, .ref a2, .ref a8, .ref a11, .int 1, .int 0, .int 0, .int 0])), (a2, .inr (1, [.int 0, .ref a3, .ref a4, .ref a5, .ref a6, .ref a7]))]) [0, 1] (by decide) rfl
  exact g_iret hx hb hr rfl hlocks hK (fun _ => 0) hP hD hS rfl dX10_spliceOnto_23 ⟨Nat.le_of_ble_eq_true rfl, Nat.le_of_ble_eq_true rfl⟩
set_option maxHeartbeats 4000000 in
set_option maxRecDepth 100000 in
theorem cT_climbUp (l : Launch) (D : va_G) (k : Nat → ClassId) (a0 : Nat) (a1 : Nat) (a2 : Nat) (a3 : Nat) (a4 : Nat) (a5 : Nat) (a6 : Nat) (a7 : Nat) (a8 : Nat) (a11 : Nat) (p0 : Int32) (p1 : Int32) : g_Ci l yX10_climbUp wsX10_climbUp ({ frames := 1, cells := 0, slots := 0, locals := 21 }) D k g_E0 [.ref a0, .int p0, .int p1] [(a0, .inr (8, [.int 0, .ref a1, .ref a2, .ref a8, .ref a11, .int 1, .int 0, .int 0, .int 0])), (a2, .inr (1, [.int 0, .ref a3, .ref a4, .ref a5, .ref a6, .ref a7]))] (-1) (fun u => [(a0, .inr (8, [.int 0, .ref a1, .ref a2, .ref a8, .ref a11, .int 1, .int 0, .int 0, .int 0])), (a2, .inr (1, [.int 0, .ref a3, .ref a4, .ref a5, .ref a6, .ref a7]))]) 0 0 := by
  intro sz
  refine Met.ofW (cc := cX10_climbUp) (maxL := 4) (ret := (some .int)) (by decide) rfl ?_
  intro p e s m args below meth c s₁ B hml hv
  obtain ⟨rfl, hsz, hP, hK, hD0, hE⟩ := hv
  have hx := B.exec
  have hb := B.bytes
  have hr := B.returns
  have hts := atoms_spec (ws := wsX10_climbUp) B.pre
  have hown : s.vm.findClass RX10 = some m.cls := findClass_of_methodNamed B.named
  have hlocks := B.notSynchronized
  subst hsz
  have hD := hD0.self (sz := s.heap.size)
  generalize hAe : va_A [(a0, .inr (8, [.int 0, .ref a1, .ref a2, .ref a8, .ref a11, .int 1, .int 0, .int 0, .int 0])), (a2, .inr (1, [.int 0, .ref a3, .ref a4, .ref a5, .ref a6, .ref a7]))] s.heap.size = A at hD ⊢
  have hA : ∀ q : Nat, s.heap.size ≤ q → A q := fun q h => by rw [← hAe]; exact Or.inr h
  have hS : va_S A s.heap s.heap [] := va_S.rf
  have hP : va_P D vwCl [(a0, .inr (8, [.int 0, .ref a1, .ref a2, .ref a8, .ref a11, .int 1, .int 0, .int 0, .int 0])), (a2, .inr (1, [.int 0, .ref a3, .ref a4, .ref a5, .ref a6, .ref a7]))] s.heap := hP
  have hl := lv_entry ([.ref a0, .int p0, .int p1]) (n := 4) (Nat.le_of_ble_eq_true rfl)
  rw [lg_entry_eq]
  generalize (lg_sl ([.ref a0, .int p0, .int p1]) ++ List.replicate (4 - (lg_sl ([.ref a0, .int p0, .int p1])).length) Slot.unset).toArray = ls at hl ⊢
  have hl : lv_has ls 4 [(0, .ref a0), (1, .int p0), (2, .int p1)] := hl
  refine lv_aload_n hx hb dX10_climbUp_0 rfl (lv_at hl 0 rfl) ?_
  refine lv_iload_n hx hb dX10_climbUp_1 rfl (lv_at hl 1 rfl) ?_
  refine g_iV (As := [.int p0]) (rest := []) (wr := [(a2, .inr (1, [.int 0, .ref a3, .ref a4, .ref a5, .ref a6, .ref a7]))]) ⟨hx, hb, hml, hown, hts⟩ (cT_hasMan l D k a0 a1 a2 a8 a11 p0) (cwV 1 hts gX10_climbUp_X10_hasMan rfl rfl rfl (by decide +kernel) ⟨Nat.le_of_ble_eq_true rfl, Nat.le_of_ble_eq_true rfl⟩) g_E0_ok (fun _ _ _ => trivial) hK hP hD hS hA 0 8 rfl rfl rfl [0] [1] rfl rfl (by decide) rfl hl.1 rfl (Nat.le_of_ble_eq_true rfl) dX10_climbUp_2 ⟨Nat.le_of_ble_eq_true rfl, Nat.le_of_ble_eq_true rfl⟩ (fun u1 H locs hP hD hS => ?_)
  have hP : va_P D vwCl [(a2, .inr (1, [.int 0, .ref a3, .ref a4, .ref a5, .ref a6, .ref a7])), (a0, .inr (8, [.int 0, .ref a1, .ref a2, .ref a8, .ref a11, .int 1, .int 0, .int 0, .int 0]))] H := hP
  have hD : va_D A [(a2, .inr (1, [.int 0, .ref a3, .ref a4, .ref a5, .ref a6, .ref a7])), (a0, .inr (8, [.int 0, .ref a1, .ref a2, .ref a8, .ref a11, .int 1, .int 0, .int 0, .int 0]))] := hD
  refine lv_if_eq (tgt := 19) hx hb dX10_climbUp_5 (by decide) (fun _ => ?_) (fun h9 => absurd (by decide) h9)
  refine lv_iconst (v := (-1)) hx hb dX10_climbUp_19 (by decide) ?_
  have hP := hP.sub (ws' := [(a0, .inr (8, [.int 0, .ref a1, .ref a2, .ref a8, .ref a11, .int 1, .int 0, .int 0, .int 0])), (a2, .inr (1, [.int 0, .ref a3, .ref a4, .ref a5, .ref a6, .ref a7]))]) [1, 0] rfl
  have hD := hD.sub (ws' := [(a0, .inr (8, [.int 0, .ref a1, .ref a2, .ref a8, .ref a11, .int 1, .int 0, .int 0, .int 0])), (a2, .inr (1, [.int 0, .ref a3, .ref a4, .ref a5, .ref a6, .ref a7]))]) [1, 0] (by decide) rfl
  exact g_iret hx hb hr rfl hlocks hK (fun _ => 0) hP hD hS rfl dX10_climbUp_20 ⟨Nat.le_of_ble_eq_true rfl, Nat.le_of_ble_eq_true rfl⟩
set_option maxHeartbeats 4000000 in
set_option maxRecDepth 100000 in
theorem cT_burnDown (l : Launch) (D : va_G) (k : Nat → ClassId) (a0 : Nat) (a1 : Nat) (a2 : Nat) (a3 : Nat) (a4 : Nat) (a5 : Nat) (a6 : Nat) (a7 : Nat) (a8 : Nat) (a11 : Nat) (p0 : Int32) : g_Ci l yX10_burnDown wsX10_burnDown ({ frames := 1, cells := 0, slots := 0, locals := 21 }) D k g_E0 [.ref a0, .int p0] [(a0, .inr (8, [.int 0, .ref a1, .ref a2, .ref a8, .ref a11, .int 1, .int 0, .int 0, .int 0])), (a2, .inr (1, [.int 0, .ref a3, .ref a4, .ref a5, .ref a6, .ref a7]))] (-1) (fun u => [(a0, .inr (8, [.int 0, .ref a1, .ref a2, .ref a8, .ref a11, .int 1, .int 0, .int 0, .int 0])), (a2, .inr (1, [.int 0, .ref a3, .ref a4, .ref a5, .ref a6, .ref a7]))]) 0 0 := by
  intro sz
  refine Met.ofW (cc := cX10_burnDown) (maxL := 2) (ret := (some .int)) (by decide) rfl ?_
  intro p e s m args below meth c s₁ B hml hv
  obtain ⟨rfl, hsz, hP, hK, hD0, hE⟩ := hv
  have hx := B.exec
  have hb := B.bytes
  have hr := B.returns
  have hts := atoms_spec (ws := wsX10_burnDown) B.pre
  have hown : s.vm.findClass RX10 = some m.cls := findClass_of_methodNamed B.named
  have hlocks := B.notSynchronized
  subst hsz
  have hD := hD0.self (sz := s.heap.size)
  generalize hAe : va_A [(a0, .inr (8, [.int 0, .ref a1, .ref a2, .ref a8, .ref a11, .int 1, .int 0, .int 0, .int 0])), (a2, .inr (1, [.int 0, .ref a3, .ref a4, .ref a5, .ref a6, .ref a7]))] s.heap.size = A at hD ⊢
  have hA : ∀ q : Nat, s.heap.size ≤ q → A q := fun q h => by rw [← hAe]; exact Or.inr h
  have hS : va_S A s.heap s.heap [] := va_S.rf
  have hP : va_P D vwCl [(a0, .inr (8, [.int 0, .ref a1, .ref a2, .ref a8, .ref a11, .int 1, .int 0, .int 0, .int 0])), (a2, .inr (1, [.int 0, .ref a3, .ref a4, .ref a5, .ref a6, .ref a7]))] s.heap := hP
  have hl := lv_entry ([.ref a0, .int p0]) (n := 2) (Nat.le_of_ble_eq_true rfl)
  rw [lg_entry_eq]
  generalize (lg_sl ([.ref a0, .int p0]) ++ List.replicate (2 - (lg_sl ([.ref a0, .int p0])).length) Slot.unset).toArray = ls at hl ⊢
  have hl : lv_has ls 2 [(0, .ref a0), (1, .int p0)] := hl
  refine lv_aload_n hx hb dX10_burnDown_0 rfl (lv_at hl 0 rfl) ?_
  refine va_get (D := D) (ci := 8) (v := .ref a2) (C := RX10) (T := TX10) (N := 9) hx hb hts inX10_burnDown_X10 hown hK hP 0 rfl rfl 2 (by decide) (hts (.fieldLink RX10 18 "RungMoney$Town" "ladders" "LRungMoney$Ladders;") (by decide +kernel)) (fun _ h9 => h9) rfl dX10_burnDown_1 ?_
  refine lv_iload_n hx hb dX10_burnDown_4 rfl (lv_at hl 1 rfl) ?_
  refine g_iV (As := [.int p0]) (rest := []) (wr := [(a0, .inr (8, [.int 0, .ref a1, .ref a2, .ref a8, .ref a11, .int 1, .int 0, .int 0, .int 0]))]) ⟨hx, hb, hml, hown, hts⟩ (cL_has l D k a2 a3 a4 a5 a6 a7 p0) (cwV 1 hts gX10_burnDown_X3_has rfl rfl rfl (by decide +kernel) ⟨Nat.le_of_ble_eq_true rfl, Nat.le_of_ble_eq_true rfl⟩) g_E0_ok (fun _ _ _ => trivial) hK hP hD hS hA 1 1 rfl rfl rfl [1] [0] rfl rfl (by decide) rfl hl.1 rfl (Nat.le_of_ble_eq_true rfl) dX10_burnDown_5 ⟨Nat.le_of_ble_eq_true rfl, Nat.le_of_ble_eq_true rfl⟩ (fun u1 H locs hP hD hS => ?_)
  have hP : va_P D vwCl [(a0, .inr (8, [.int 0, .ref a1, .ref a2, .ref a8, .ref a11, .int 1, .int 0, .int 0, .int 0])), (a2, .inr (1, [.int 0, .ref a3, .ref a4, .ref a5, .ref a6, .ref a7]))] H := hP
  have hD : va_D A [(a0, .inr (8, [.int 0, .ref a1, .ref a2, .ref a8, .ref a11, .int 1, .int 0, .int 0, .int 0])), (a2, .inr (1, [.int 0, .ref a3, .ref a4, .ref a5, .ref a6, .ref a7]))] := hD
  refine lv_if_ne (tgt := 13) hx hb dX10_burnDown_8 (by decide) (fun h9 => absurd rfl h9) (fun _ => ?_)
  refine lv_iconst (v := (-1)) hx hb dX10_burnDown_11 (by decide) ?_
  have hP := hP.sub (ws' := [(a0, .inr (8, [.int 0, .ref a1, .ref a2, .ref a8, .ref a11, .int 1, .int 0, .int 0, .int 0])), (a2, .inr (1, [.int 0, .ref a3, .ref a4, .ref a5, .ref a6, .ref a7]))]) [0, 1] rfl
  have hD := hD.sub (ws' := [(a0, .inr (8, [.int 0, .ref a1, .ref a2, .ref a8, .ref a11, .int 1, .int 0, .int 0, .int 0])), (a2, .inr (1, [.int 0, .ref a3, .ref a4, .ref a5, .ref a6, .ref a7]))]) [0, 1] (by decide) rfl
  exact g_iret hx hb hr rfl hlocks hK (fun _ => 0) hP hD hS rfl dX10_burnDown_12 ⟨Nat.le_of_ble_eq_true rfl, Nat.le_of_ble_eq_true rfl⟩
set_option maxHeartbeats 4000000 in
set_option maxRecDepth 100000 in
theorem cT_paintRung (l : Launch) (D : va_G) (k : Nat → ClassId) (a0 : Nat) (a1 : Nat) (a2 : Nat) (a3 : Nat) (a4 : Nat) (a5 : Nat) (a6 : Nat) (a7 : Nat) (a8 : Nat) (a11 : Nat) (p0 : Int32) (p1 : Int32) : g_Ci l yX10_paintRung wsX10_paintRung ({ frames := 1, cells := 0, slots := 0, locals := 21 }) D k g_E0 [.ref a0, .int p0, .int p1] [(a0, .inr (8, [.int 0, .ref a1, .ref a2, .ref a8, .ref a11, .int 1, .int 0, .int 0, .int 0])), (a2, .inr (1, [.int 0, .ref a3, .ref a4, .ref a5, .ref a6, .ref a7]))] (-1) (fun u => [(a0, .inr (8, [.int 0, .ref a1, .ref a2, .ref a8, .ref a11, .int 1, .int 0, .int 0, .int 0])), (a2, .inr (1, [.int 0, .ref a3, .ref a4, .ref a5, .ref a6, .ref a7]))]) 0 0 := by
  intro sz
  refine Met.ofW (cc := cX10_paintRung) (maxL := 4) (ret := (some .int)) (by decide) rfl ?_
  intro p e s m args below meth c s₁ B hml hv
  obtain ⟨rfl, hsz, hP, hK, hD0, hE⟩ := hv
  have hx := B.exec
  have hb := B.bytes
  have hr := B.returns
  have hts := atoms_spec (ws := wsX10_paintRung) B.pre
  have hown : s.vm.findClass RX10 = some m.cls := findClass_of_methodNamed B.named
  have hlocks := B.notSynchronized
  subst hsz
  have hD := hD0.self (sz := s.heap.size)
  generalize hAe : va_A [(a0, .inr (8, [.int 0, .ref a1, .ref a2, .ref a8, .ref a11, .int 1, .int 0, .int 0, .int 0])), (a2, .inr (1, [.int 0, .ref a3, .ref a4, .ref a5, .ref a6, .ref a7]))] s.heap.size = A at hD ⊢
  have hA : ∀ q : Nat, s.heap.size ≤ q → A q := fun q h => by rw [← hAe]; exact Or.inr h
  have hS : va_S A s.heap s.heap [] := va_S.rf
  have hP : va_P D vwCl [(a0, .inr (8, [.int 0, .ref a1, .ref a2, .ref a8, .ref a11, .int 1, .int 0, .int 0, .int 0])), (a2, .inr (1, [.int 0, .ref a3, .ref a4, .ref a5, .ref a6, .ref a7]))] s.heap := hP
  have hl := lv_entry ([.ref a0, .int p0, .int p1]) (n := 4) (Nat.le_of_ble_eq_true rfl)
  rw [lg_entry_eq]
  generalize (lg_sl ([.ref a0, .int p0, .int p1]) ++ List.replicate (4 - (lg_sl ([.ref a0, .int p0, .int p1])).length) Slot.unset).toArray = ls at hl ⊢
  have hl : lv_has ls 4 [(0, .ref a0), (1, .int p0), (2, .int p1)] := hl
  refine lv_aload_n hx hb dX10_paintRung_0 rfl (lv_at hl 0 rfl) ?_
  refine va_get (D := D) (ci := 8) (v := .ref a2) (C := RX10) (T := TX10) (N := 9) hx hb hts inX10_paintRung_X10 hown hK hP 0 rfl rfl 2 (by decide) (hts (.fieldLink RX10 18 "RungMoney$Town" "ladders" "LRungMoney$Ladders;") (by decide +kernel)) (fun _ h9 => h9) rfl dX10_paintRung_1 ?_
  refine lv_iload_n hx hb dX10_paintRung_4 rfl (lv_at hl 1 rfl) ?_
  refine g_iV (As := [.int p0]) (rest := []) (wr := [(a0, .inr (8, [.int 0, .ref a1, .ref a2, .ref a8, .ref a11, .int 1, .int 0, .int 0, .int 0]))]) ⟨hx, hb, hml, hown, hts⟩ (cL_has l D k a2 a3 a4 a5 a6 a7 p0) (cwV 1 hts gX10_paintRung_X3_has rfl rfl rfl (by decide +kernel) ⟨Nat.le_of_ble_eq_true rfl, Nat.le_of_ble_eq_true rfl⟩) g_E0_ok (fun _ _ _ => trivial) hK hP hD hS hA 1 1 rfl rfl rfl [1] [0] rfl rfl (by decide) rfl hl.1 rfl (Nat.le_of_ble_eq_true rfl) dX10_paintRung_5 ⟨Nat.le_of_ble_eq_true rfl, Nat.le_of_ble_eq_true rfl⟩ (fun u1 H locs hP hD hS => ?_)
  have hP : va_P D vwCl [(a0, .inr (8, [.int 0, .ref a1, .ref a2, .ref a8, .ref a11, .int 1, .int 0, .int 0, .int 0])), (a2, .inr (1, [.int 0, .ref a3, .ref a4, .ref a5, .ref a6, .ref a7]))] H := hP
  have hD : va_D A [(a0, .inr (8, [.int 0, .ref a1, .ref a2, .ref a8, .ref a11, .int 1, .int 0, .int 0, .int 0])), (a2, .inr (1, [.int 0, .ref a3, .ref a4, .ref a5, .ref a6, .ref a7]))] := hD
  refine lv_if_eq (tgt := 21) hx hb dX10_paintRung_8 (by decide) (fun _ => ?_) (fun h9 => absurd (by decide) h9)
  refine lv_iconst (v := (-1)) hx hb dX10_paintRung_21 (by decide) ?_
  have hP := hP.sub (ws' := [(a0, .inr (8, [.int 0, .ref a1, .ref a2, .ref a8, .ref a11, .int 1, .int 0, .int 0, .int 0])), (a2, .inr (1, [.int 0, .ref a3, .ref a4, .ref a5, .ref a6, .ref a7]))]) [0, 1] rfl
  have hD := hD.sub (ws' := [(a0, .inr (8, [.int 0, .ref a1, .ref a2, .ref a8, .ref a11, .int 1, .int 0, .int 0, .int 0])), (a2, .inr (1, [.int 0, .ref a3, .ref a4, .ref a5, .ref a6, .ref a7]))]) [0, 1] (by decide) rfl
  exact g_iret hx hb hr rfl hlocks hK (fun _ => 0) hP hD hS rfl dX10_paintRung_22 ⟨Nat.le_of_ble_eq_true rfl, Nat.le_of_ble_eq_true rfl⟩
set_option maxHeartbeats 4000000 in
set_option maxRecDepth 100000 in
theorem cT_raiseTaxes (l : Launch) (D : va_G) (k : Nat → ClassId) (a0 : Nat) (a1 : Nat) (a2 : Nat) (a3 : Nat) (a4 : Nat) (a5 : Nat) (a6 : Nat) (a7 : Nat) (a8 : Nat) (a11 : Nat) : g_Ci l yX10_raiseTaxes wsX10_raiseTaxes ({ frames := 0, cells := 0, slots := 0, locals := 0 }) D k g_E0 [.ref a0] [(a0, .inr (8, [.int 0, .ref a1, .ref a2, .ref a8, .ref a11, .int 1, .int 0, .int 0, .int 0])), (a2, .inr (1, [.int 0, .ref a3, .ref a4, .ref a5, .ref a6, .ref a7]))] 1 (fun u => [(a0, .inr (8, [.int 0, .ref a1, .ref a2, .ref a8, .ref a11, .int 1, .int 0, .int 0, .int 0])), (a2, .inr (1, [.int 0, .ref a3, .ref a4, .ref a5, .ref a6, .ref a7]))]) 0 0 := by
  intro sz
  refine Met.ofW (cc := cX10_raiseTaxes) (maxL := 3) (ret := (some .int)) (by decide) rfl ?_
  intro p e s m args below meth c s₁ B hml hv
  obtain ⟨rfl, hsz, hP, hK, hD0, hE⟩ := hv
  have hx := B.exec
  have hb := B.bytes
  have hr := B.returns
  have hts := atoms_spec (ws := wsX10_raiseTaxes) B.pre
  have hown : s.vm.findClass RX10 = some m.cls := findClass_of_methodNamed B.named
  have hlocks := B.notSynchronized
  subst hsz
  have hD := hD0.self (sz := s.heap.size)
  generalize hAe : va_A [(a0, .inr (8, [.int 0, .ref a1, .ref a2, .ref a8, .ref a11, .int 1, .int 0, .int 0, .int 0])), (a2, .inr (1, [.int 0, .ref a3, .ref a4, .ref a5, .ref a6, .ref a7]))] s.heap.size = A at hD ⊢
  have hA : ∀ q : Nat, s.heap.size ≤ q → A q := fun q h => by rw [← hAe]; exact Or.inr h
  have hS : va_S A s.heap s.heap [] := va_S.rf
  have hP : va_P D vwCl [(a0, .inr (8, [.int 0, .ref a1, .ref a2, .ref a8, .ref a11, .int 1, .int 0, .int 0, .int 0])), (a2, .inr (1, [.int 0, .ref a3, .ref a4, .ref a5, .ref a6, .ref a7]))] s.heap := hP
  have hl := lv_entry ([.ref a0]) (n := 3) (Nat.le_of_ble_eq_true rfl)
  rw [lg_entry_eq]
  generalize (lg_sl ([.ref a0]) ++ List.replicate (3 - (lg_sl ([.ref a0])).length) Slot.unset).toArray = ls at hl ⊢
  have hl : lv_has ls 3 [(0, .ref a0)] := hl
  refine lv_iconst (v := 0) hx hb dX10_raiseTaxes_0 (by decide) ?_
  refine lv_istore_n (lv' := [(1, .int 0), (0, .ref a0)]) hx hb dX10_raiseTaxes_1 rfl hl (by decide) rfl (fun ls hl => ?_)
  refine lv_iconst (v := 0) hx hb dX10_raiseTaxes_2 (by decide) ?_
  refine lv_istore_n (lv' := [(2, .int 0), (1, .int 0), (0, .ref a0)]) hx hb dX10_raiseTaxes_3 rfl hl (by decide) rfl (fun ls hl => ?_)
  refine lv_iload_n hx hb dX10_raiseTaxes_4 rfl (lv_at hl 0 rfl) ?_
  refine lv_aload_n hx hb dX10_raiseTaxes_5 rfl (lv_at hl 2 rfl) ?_
  refine va_get (D := D) (ci := 8) (v := .ref a2) (C := RX10) (T := TX10) (N := 9) hx hb hts inX10_raiseTaxes_X10 hown hK hP 0 rfl rfl 2 (by decide) (hts (.fieldLink RX10 18 "RungMoney$Town" "ladders" "LRungMoney$Ladders;") (by decide +kernel)) (fun _ h9 => h9) rfl dX10_raiseTaxes_6 ?_
  refine va_get (D := D) (ci := 1) (v := .int 0) (C := RX3) (T := TX3) (N := 6) hx hb hts inX10_raiseTaxes_X3 hown hK hP 1 rfl rfl 0 (by decide) (hts (.fieldLink RX10 40 "RungMoney$Ladders" "size" "I") (by decide +kernel)) (fun _ h9 => h9) rfl dX10_raiseTaxes_9 ?_
  refine lv_icmp_ge (tgt := 43) hx hb dX10_raiseTaxes_12 (by decide) (fun _ => ?_) (fun h9 => absurd (by decide) h9)
  refine lv_aload_n hx hb dX10_raiseTaxes_43 rfl (lv_at hl 2 rfl) ?_
  refine lv_dup hx hb dX10_raiseTaxes_44 rfl ?_
  refine va_get (D := D) (ci := 8) (v := .int 0) (C := RX10) (T := TX10) (N := 9) hx hb hts inX10_raiseTaxes_X10 hown hK hP 0 rfl rfl 7 (by decide) (hts (.fieldLink RX10 55 "RungMoney$Town" "mint" "I") (by decide +kernel)) (fun _ h9 => h9) rfl dX10_raiseTaxes_45 ?_
  refine lv_iload_n hx hb dX10_raiseTaxes_48 rfl (lv_at hl 1 rfl) ?_
  refine lv_iadd hx hb dX10_raiseTaxes_49 ?_
  refine lv_topi (fun x1 ex1 => ?_)
  obtain rfl : x1 = 0 := ex1.trans (by decide)
  refine va_put (D := D) (ci := 8) (v := .int 0) (ty := .int) (C := RX10) (T := TX10) (N := 9) hx hb hts inX10_raiseTaxes_X10 tyX10 tyX10_ok nmX10 hown hK hP hD hS 0 rfl rfl 7 (by decide) (hts (.fieldLink RX10 55 "RungMoney$Town" "mint" "I") (by decide +kernel)) (fun _ h9 => h9) rfl (by decide +kernel) rfl rfl (Nat.le_of_ble_eq_true rfl) dX10_raiseTaxes_50 (fun H locs hP hD hS => ?_)
  have hP : va_P D vwCl [(a0, .inr (8, [.int 0, .ref a1, .ref a2, .ref a8, .ref a11, .int 1, .int 0, .int 0, .int 0])), (a2, .inr (1, [.int 0, .ref a3, .ref a4, .ref a5, .ref a6, .ref a7]))] H := hP
  have hD : va_D A [(a0, .inr (8, [.int 0, .ref a1, .ref a2, .ref a8, .ref a11, .int 1, .int 0, .int 0, .int 0])), (a2, .inr (1, [.int 0, .ref a3, .ref a4, .ref a5, .ref a6, .ref a7]))] := hD
  refine lv_iload_n hx hb dX10_raiseTaxes_53 rfl (lv_at hl 1 rfl) ?_
  refine lv_if_ne (tgt := 61) hx hb dX10_raiseTaxes_54 (by decide) (fun h9 => absurd rfl h9) (fun _ => ?_)
  refine lv_iconst (v := 1) hx hb dX10_raiseTaxes_57 (by decide) ?_
  refine lv_goto (tgt := 62) hx hb dX10_raiseTaxes_58 (by decide) ?_
  have hP := hP.sub (ws' := [(a0, .inr (8, [.int 0, .ref a1, .ref a2, .ref a8, .ref a11, .int 1, .int 0, .int 0, .int 0])), (a2, .inr (1, [.int 0, .ref a3, .ref a4, .ref a5, .ref a6, .ref a7]))]) [0, 1] rfl
  have hD := hD.sub (ws' := [(a0, .inr (8, [.int 0, .ref a1, .ref a2, .ref a8, .ref a11, .int 1, .int 0, .int 0, .int 0])), (a2, .inr (1, [.int 0, .ref a3, .ref a4, .ref a5, .ref a6, .ref a7]))]) [0, 1] (by decide) rfl
  exact g_iret hx hb hr rfl hlocks hK (fun _ => 0) hP hD hS rfl dX10_raiseTaxes_62 ⟨Nat.le_of_ble_eq_true rfl, Nat.le_of_ble_eq_true rfl⟩
set_option maxHeartbeats 4000000 in
set_option maxRecDepth 100000 in
theorem cT_brokeBy (l : Launch) (D : va_G) (k : Nat → ClassId) (a0 : Nat) (a1 : Nat) (a2 : Nat) (a8 : Nat) (a11 : Nat) (p0 : Int32) : g_Ci l yX10_brokeBy wsX10_brokeBy ({ frames := 0, cells := 0, slots := 0, locals := 0 }) D k g_E0 [.ref a0, .int p0] [(a0, .inr (8, [.int 0, .ref a1, .ref a2, .ref a8, .ref a11, .int 1, .int 0, .int 0, .int 0]))] 0 (fun u => [(a0, .inr (8, [.int 0, .ref a1, .ref a2, .ref a8, .ref a11, .int 1, .int 0, .int 0, .int 0]))]) 0 0 := by
  intro sz
  refine Met.ofW (cc := cX10_brokeBy) (maxL := 6) (ret := (some .int)) (by decide) rfl ?_
  intro p e s m args below meth c s₁ B hml hv
  obtain ⟨rfl, hsz, hP, hK, hD0, hE⟩ := hv
  have hx := B.exec
  have hb := B.bytes
  have hr := B.returns
  have hts := atoms_spec (ws := wsX10_brokeBy) B.pre
  have hown : s.vm.findClass RX10 = some m.cls := findClass_of_methodNamed B.named
  have hlocks := B.notSynchronized
  subst hsz
  have hD := hD0.self (sz := s.heap.size)
  generalize hAe : va_A [(a0, .inr (8, [.int 0, .ref a1, .ref a2, .ref a8, .ref a11, .int 1, .int 0, .int 0, .int 0]))] s.heap.size = A at hD ⊢
  have hA : ∀ q : Nat, s.heap.size ≤ q → A q := fun q h => by rw [← hAe]; exact Or.inr h
  have hS : va_S A s.heap s.heap [] := va_S.rf
  have hP : va_P D vwCl [(a0, .inr (8, [.int 0, .ref a1, .ref a2, .ref a8, .ref a11, .int 1, .int 0, .int 0, .int 0]))] s.heap := hP
  have hl := lv_entry ([.ref a0, .int p0]) (n := 6) (Nat.le_of_ble_eq_true rfl)
  rw [lg_entry_eq]
  generalize (lg_sl ([.ref a0, .int p0]) ++ List.replicate (6 - (lg_sl ([.ref a0, .int p0])).length) Slot.unset).toArray = ls at hl ⊢
  have hl : lv_has ls 6 [(0, .ref a0), (1, .int p0)] := hl
  refine lv_iconst (v := 0) hx hb dX10_brokeBy_0 (by decide) ?_
  refine lv_istore_n (lv' := [(2, .int 0), (0, .ref a0), (1, .int p0)]) hx hb dX10_brokeBy_1 rfl hl (by decide) rfl (fun ls hl => ?_)
  refine lv_iconst (v := 0) hx hb dX10_brokeBy_2 (by decide) ?_
  refine lv_istore_n (lv' := [(3, .int 0), (2, .int 0), (0, .ref a0), (1, .int p0)]) hx hb dX10_brokeBy_3 rfl hl (by decide) rfl (fun ls hl => ?_)
  refine g_loop 4 6 (fun i1 H locs ls => va_P D vwCl [(a0, .inr (8, [.int 0, .ref a1, .ref a2, .ref a8, .ref a11, .int 1, .int 0, .int 0, .int 0]))] H ∧ va_D A [(a0, .inr (8, [.int 0, .ref a1, .ref a2, .ref a8, .ref a11, .int 1, .int 0, .int 0, .int 0]))] ∧ va_S A s.heap H locs ∧ lv_has ls 6 [(3, .int (nI i1)), (2, .int 0), (0, .ref a0), (1, .int p0)]) [] ?_ ?_ 0 (Nat.zero_le _) _ _ _ ⟨hP, hD, hS, lv_sub hl [0, 1, 2, 3] rfl⟩
  · intro H locs ls hI
    obtain ⟨hP, hD, hS, hl⟩ := hI
    have hl : lv_has ls 6 [(3, .int 6), (2, .int 0), (0, .ref a0), (1, .int p0)] := hl
    refine lv_iload_n hx hb dX10_brokeBy_4 rfl (lv_at hl 0 rfl) ?_
    refine lv_bipush (v := 6) hx hb dX10_brokeBy_5 (by decide) ?_
    refine lv_icmp_ge (tgt := 82) hx hb dX10_brokeBy_7 (by decide) (fun _ => ?_) (fun h9 => absurd (by decide) h9)
    refine lv_iload_n hx hb dX10_brokeBy_82 rfl (lv_at hl 1 rfl) ?_
    have hP := hP.sub (ws' := [(a0, .inr (8, [.int 0, .ref a1, .ref a2, .ref a8, .ref a11, .int 1, .int 0, .int 0, .int 0]))]) [0] rfl
    have hD := hD.sub (ws' := [(a0, .inr (8, [.int 0, .ref a1, .ref a2, .ref a8, .ref a11, .int 1, .int 0, .int 0, .int 0]))]) [0] (by decide) rfl
    exact g_iret hx hb hr rfl hlocks hK (fun _ => 0) hP hD hS rfl dX10_brokeBy_83 ⟨Nat.le_of_ble_eq_true rfl, Nat.le_of_ble_eq_true rfl⟩
  · intro i1 hi1 ihi1 H locs ls hI
    obtain ⟨hP, hD, hS, hl⟩ := hI
    refine lv_iload_n hx hb dX10_brokeBy_4 rfl (lv_at hl 0 rfl) ?_
    refine lv_bipush (v := 6) hx hb dX10_brokeBy_5 (by decide) ?_
    refine lv_icmp_ge (tgt := 82) hx hb dX10_brokeBy_7 (by decide) (fun h9 => absurd h9 (fun z => absurd ((nI_leI (a := 6) (b := i1) (by omega) (by omega)).mp z) (by omega))) (fun _ => ?_)
    refine lv_iload_n hx hb dX10_brokeBy_10 rfl (lv_at hl 1 rfl) ?_
    refine lv_istore (lv' := [(4, .int 0), (3, .int (nI i1)), (2, .int 0), (0, .ref a0), (1, .int p0)]) hx hb dX10_brokeBy_11 hl (by decide) rfl (fun ls hl => ?_)
    refine lv_iconst (v := 0) hx hb dX10_brokeBy_13 (by decide) ?_
    refine lv_istore (lv' := [(5, .int 0), (4, .int 0), (3, .int (nI i1)), (2, .int 0), (0, .ref a0), (1, .int p0)]) hx hb dX10_brokeBy_14 hl (by decide) rfl (fun ls hl => ?_)
    refine lv_iload hx hb dX10_brokeBy_16 (lv_at hl 0 rfl) ?_
    refine lv_aload_n hx hb dX10_brokeBy_18 rfl (lv_at hl 4 rfl) ?_
    refine va_get (D := D) (ci := 8) (v := .int 0) (C := RX10) (T := TX10) (N := 9) hx hb hts inX10_brokeBy_X10 hown hK hP 0 rfl rfl 0 (by decide) (hts (.fieldLink RX10 37 "RungMoney$Town" "men" "I") (by decide +kernel)) (fun _ h9 => h9) rfl dX10_brokeBy_19 ?_
    refine lv_icmp_ge (tgt := 73) hx hb dX10_brokeBy_22 (by decide) (fun _ => ?_) (fun h9 => absurd (by decide) h9)
    refine lv_iload hx hb dX10_brokeBy_73 (lv_at hl 1 rfl) ?_
    refine lv_istore_n (lv' := [(2, .int 0), (5, .int 0), (4, .int 0), (3, .int (nI i1)), (0, .ref a0), (1, .int p0)]) hx hb dX10_brokeBy_75 rfl hl (by decide) rfl (fun ls hl => ?_)
    refine lv_iinc (v := (nI (i1 + 1))) (lv' := [(3, .int (nI (i1 + 1))), (2, .int 0), (5, .int 0), (4, .int 0), (0, .ref a0), (1, .int p0)]) hx hb dX10_brokeBy_76 hl (k := 3) rfl (nI_1 i1) (by decide) rfl (fun ls hl => ?_)
    refine lv_goto (tgt := 4) hx hb dX10_brokeBy_79 (by decide) ?_
    exact ihi1 _ _ _ ⟨hP, hD, hS, lv_sub hl [0, 1, 4, 5] rfl⟩
set_option maxHeartbeats 4000000 in
set_option maxRecDepth 100000 in
theorem cT_allMen (l : Launch) (D : va_G) (k : Nat → ClassId) (a0 : Nat) (a1 : Nat) (a2 : Nat) (a8 : Nat) (a11 : Nat) : g_Ci l yX10_allMen wsX10_allMen ({ frames := 0, cells := 0, slots := 0, locals := 0 }) D k g_E0 [.ref a0] [(a0, .inr (8, [.int 0, .ref a1, .ref a2, .ref a8, .ref a11, .int 1, .int 0, .int 0, .int 0]))] 0 (fun u => [(a0, .inr (8, [.int 0, .ref a1, .ref a2, .ref a8, .ref a11, .int 1, .int 0, .int 0, .int 0]))]) 0 0 := by
  intro sz
  refine Met.ofW (cc := cX10_allMen) (maxL := 1) (ret := (some .int)) (by decide) rfl ?_
  intro p e s m args below meth c s₁ B hml hv
  obtain ⟨rfl, hsz, hP, hK, hD0, hE⟩ := hv
  have hx := B.exec
  have hb := B.bytes
  have hr := B.returns
  have hts := atoms_spec (ws := wsX10_allMen) B.pre
  have hown : s.vm.findClass RX10 = some m.cls := findClass_of_methodNamed B.named
  have hlocks := B.notSynchronized
  subst hsz
  have hD := hD0.self (sz := s.heap.size)
  generalize hAe : va_A [(a0, .inr (8, [.int 0, .ref a1, .ref a2, .ref a8, .ref a11, .int 1, .int 0, .int 0, .int 0]))] s.heap.size = A at hD ⊢
  have hA : ∀ q : Nat, s.heap.size ≤ q → A q := fun q h => by rw [← hAe]; exact Or.inr h
  have hS : va_S A s.heap s.heap [] := va_S.rf
  have hP : va_P D vwCl [(a0, .inr (8, [.int 0, .ref a1, .ref a2, .ref a8, .ref a11, .int 1, .int 0, .int 0, .int 0]))] s.heap := hP
  have hl := lv_entry ([.ref a0]) (n := 1) (Nat.le_of_ble_eq_true rfl)
  rw [lg_entry_eq]
  generalize (lg_sl ([.ref a0]) ++ List.replicate (1 - (lg_sl ([.ref a0])).length) Slot.unset).toArray = ls at hl ⊢
  have hl : lv_has ls 1 [(0, .ref a0)] := hl
  refine lv_iconst (v := 1) hx hb dX10_allMen_0 (by decide) ?_
  refine lv_aload_n hx hb dX10_allMen_1 rfl (lv_at hl 0 rfl) ?_
  refine va_get (D := D) (ci := 8) (v := .int 0) (C := RX10) (T := TX10) (N := 9) hx hb hts inX10_allMen_X10 hown hK hP 0 rfl rfl 0 (by decide) (hts (.fieldLink RX10 37 "RungMoney$Town" "men" "I") (by decide +kernel)) (fun _ h9 => h9) rfl dX10_allMen_2 ?_
  refine lv_ishl hx hb dX10_allMen_5 ?_
  refine lv_topi (fun x1 ex1 => ?_)
  obtain rfl : x1 = 1 := ex1.trans (by decide)
  refine lv_iconst (v := 1) hx hb dX10_allMen_6 (by decide) ?_
  refine lv_isub hx hb dX10_allMen_7 ?_
  refine lv_topi (fun x2 ex2 => ?_)
  obtain rfl : x2 = 0 := ex2.trans (by decide)
  have hP := hP.sub (ws' := [(a0, .inr (8, [.int 0, .ref a1, .ref a2, .ref a8, .ref a11, .int 1, .int 0, .int 0, .int 0]))]) [0] rfl
  have hD := hD.sub (ws' := [(a0, .inr (8, [.int 0, .ref a1, .ref a2, .ref a8, .ref a11, .int 1, .int 0, .int 0, .int 0]))]) [0] (by decide) rfl
  exact g_iret hx hb hr rfl hlocks hK (fun _ => 0) hP hD hS rfl dX10_allMen_8 ⟨Nat.le_of_ble_eq_true rfl, Nat.le_of_ble_eq_true rfl⟩
set_option maxHeartbeats 4000000 in
set_option maxRecDepth 100000 in
theorem cT_clear (l : Launch) (D : va_G) (k : Nat → ClassId) (a0 : Nat) (a1 : Nat) (a2 : Nat) (a3 : Nat) (a4 : Nat) (a5 : Nat) (a6 : Nat) (a7 : Nat) (a8 : Nat) (a9 : Nat) (a10 : Nat) (a11 : Nat) : g_Cv l yX10_clear wsX10_clear ({ frames := 2, cells := 0, slots := 0, locals := 43 }) D k g_E0 [.ref a0] [(a0, .inr (8, [.int 0, .ref a1, .ref a2, .ref a8, .ref a11, .int 1, .int 0, .int 0, .int 0])), (a1, .inl (k 1, 6, .inr (.inl (fun _ => 0)))), (a2, .inr (1, [.int 0, .ref a3, .ref a4, .ref a5, .ref a6, .ref a7])), (a3, .inl (k 0, 16, .inl (fun _ => 0))), (a4, .inl (k 0, 16, .inl (fun _ => 0))), (a5, .inl (k 0, 16, .inl (fun _ => 0))), (a6, .inl (k 0, 16, .inl (fun _ => 0))), (a7, .inl (k 0, 16, .inl (fun _ => 0))), (a8, .inr (0, [.ref a9, .ref a10])), (a9, .inl (k 0, 36, .inl (fun _ => 0))), (a10, .inl (k 0, 6, .inl (fun _ => 0))), (a11, .inl (k 0, 6, .inl (fun _ => 0)))] (fun u => [(a0, .inr (8, [.int 0, .ref a1, .ref a2, .ref a8, .ref a11, .int 1, .int 0, .int 0, .int 0])), (a1, .inl (k 1, 6, .inr (.inl (fun _ => 0)))), (a2, .inr (1, [.int 0, .ref a3, .ref a4, .ref a5, .ref a6, .ref a7])), (a3, .inl (k 0, 16, .inl (fun _ => 0))), (a4, .inl (k 0, 16, .inl (fun _ => 0))), (a5, .inl (k 0, 16, .inl (fun _ => 0))), (a6, .inl (k 0, 16, .inl (fun _ => 0))), (a7, .inl (k 0, 16, .inl (fun _ => 0))), (a8, .inr (0, [.ref a9, .ref a10])), (a9, .inl (k 0, 36, .inl (fun _ => 0))), (a10, .inl (k 0, 6, .inl (fun _ => 0))), (a11, .inl (k 0, 6, .inl (fun _ => 0)))]) 0 0 := by
  intro sz
  refine Met.ofW (cc := cX10_clear) (maxL := 1) (ret := none) (by decide) rfl ?_
  intro p e s m args below meth c s₁ B hml hv
  obtain ⟨rfl, hsz, hP, hK, hD0, hE⟩ := hv
  have hx := B.exec
  have hb := B.bytes
  have hr := B.returns
  have hts := atoms_spec (ws := wsX10_clear) B.pre
  have hown : s.vm.findClass RX10 = some m.cls := findClass_of_methodNamed B.named
  have hlocks := B.notSynchronized
  subst hsz
  have hD := hD0.self (sz := s.heap.size)
  generalize hAe : va_A [(a0, .inr (8, [.int 0, .ref a1, .ref a2, .ref a8, .ref a11, .int 1, .int 0, .int 0, .int 0])), (a1, .inl (k 1, 6, .inr (.inl (fun _ => 0)))), (a2, .inr (1, [.int 0, .ref a3, .ref a4, .ref a5, .ref a6, .ref a7])), (a3, .inl (k 0, 16, .inl (fun _ => 0))), (a4, .inl (k 0, 16, .inl (fun _ => 0))), (a5, .inl (k 0, 16, .inl (fun _ => 0))), (a6, .inl (k 0, 16, .inl (fun _ => 0))), (a7, .inl (k 0, 16, .inl (fun _ => 0))), (a8, .inr (0, [.ref a9, .ref a10])), (a9, .inl (k 0, 36, .inl (fun _ => 0))), (a10, .inl (k 0, 6, .inl (fun _ => 0))), (a11, .inl (k 0, 6, .inl (fun _ => 0)))] s.heap.size = A at hD ⊢
  have hA : ∀ q : Nat, s.heap.size ≤ q → A q := fun q h => by rw [← hAe]; exact Or.inr h
  have hS : va_S A s.heap s.heap [] := va_S.rf
  have hP : va_P D vwCl [(a0, .inr (8, [.int 0, .ref a1, .ref a2, .ref a8, .ref a11, .int 1, .int 0, .int 0, .int 0])), (a1, .inl (k 1, 6, .inr (.inl (fun _ => 0)))), (a2, .inr (1, [.int 0, .ref a3, .ref a4, .ref a5, .ref a6, .ref a7])), (a3, .inl (k 0, 16, .inl (fun _ => 0))), (a4, .inl (k 0, 16, .inl (fun _ => 0))), (a5, .inl (k 0, 16, .inl (fun _ => 0))), (a6, .inl (k 0, 16, .inl (fun _ => 0))), (a7, .inl (k 0, 16, .inl (fun _ => 0))), (a8, .inr (0, [.ref a9, .ref a10])), (a9, .inl (k 0, 36, .inl (fun _ => 0))), (a10, .inl (k 0, 6, .inl (fun _ => 0))), (a11, .inl (k 0, 6, .inl (fun _ => 0)))] s.heap := hP
  have hl := lv_entry ([.ref a0]) (n := 1) (Nat.le_of_ble_eq_true rfl)
  rw [lg_entry_eq]
  generalize (lg_sl ([.ref a0]) ++ List.replicate (1 - (lg_sl ([.ref a0])).length) Slot.unset).toArray = ls at hl ⊢
  have hl : lv_has ls 1 [(0, .ref a0)] := hl
  refine lv_aload_n hx hb dX10_clear_0 rfl (lv_at hl 0 rfl) ?_
  refine lv_iconst (v := 0) hx hb dX10_clear_1 (by decide) ?_
  refine va_put (D := D) (ci := 8) (v := .int 0) (ty := .int) (C := RX10) (T := TX10) (N := 9) hx hb hts inX10_clear_X10 tyX10 tyX10_ok nmX10 hown hK hP hD hS 0 rfl rfl 0 (by decide) (hts (.fieldLink RX10 37 "RungMoney$Town" "men" "I") (by decide +kernel)) (fun _ h9 => h9) rfl (by decide +kernel) rfl rfl (Nat.le_of_ble_eq_true rfl) dX10_clear_2 (fun H locs hP hD hS => ?_)
  have hP : va_P D vwCl [(a0, .inr (8, [.int 0, .ref a1, .ref a2, .ref a8, .ref a11, .int 1, .int 0, .int 0, .int 0])), (a1, .inl (k 1, 6, .inr (.inl (fun _ => 0)))), (a2, .inr (1, [.int 0, .ref a3, .ref a4, .ref a5, .ref a6, .ref a7])), (a3, .inl (k 0, 16, .inl (fun _ => 0))), (a4, .inl (k 0, 16, .inl (fun _ => 0))), (a5, .inl (k 0, 16, .inl (fun _ => 0))), (a6, .inl (k 0, 16, .inl (fun _ => 0))), (a7, .inl (k 0, 16, .inl (fun _ => 0))), (a8, .inr (0, [.ref a9, .ref a10])), (a9, .inl (k 0, 36, .inl (fun _ => 0))), (a10, .inl (k 0, 6, .inl (fun _ => 0))), (a11, .inl (k 0, 6, .inl (fun _ => 0)))] H := hP
  have hD : va_D A [(a0, .inr (8, [.int 0, .ref a1, .ref a2, .ref a8, .ref a11, .int 1, .int 0, .int 0, .int 0])), (a1, .inl (k 1, 6, .inr (.inl (fun _ => 0)))), (a2, .inr (1, [.int 0, .ref a3, .ref a4, .ref a5, .ref a6, .ref a7])), (a3, .inl (k 0, 16, .inl (fun _ => 0))), (a4, .inl (k 0, 16, .inl (fun _ => 0))), (a5, .inl (k 0, 16, .inl (fun _ => 0))), (a6, .inl (k 0, 16, .inl (fun _ => 0))), (a7, .inl (k 0, 16, .inl (fun _ => 0))), (a8, .inr (0, [.ref a9, .ref a10])), (a9, .inl (k 0, 36, .inl (fun _ => 0))), (a10, .inl (k 0, 6, .inl (fun _ => 0))), (a11, .inl (k 0, 6, .inl (fun _ => 0)))] := hD
  refine lv_aload_n hx hb dX10_clear_5 rfl (lv_at hl 0 rfl) ?_
  refine va_get (D := D) (ci := 8) (v := .ref a2) (C := RX10) (T := TX10) (N := 9) hx hb hts inX10_clear_X10 hown hK hP 0 rfl rfl 2 (by decide) (hts (.fieldLink RX10 18 "RungMoney$Town" "ladders" "LRungMoney$Ladders;") (by decide +kernel)) (fun _ h9 => h9) rfl dX10_clear_6 ?_
  refine lv_iconst (v := 0) hx hb dX10_clear_9 (by decide) ?_
  refine va_put (D := D) (ci := 1) (v := .int 0) (ty := .int) (C := RX3) (T := TX3) (N := 6) hx hb hts inX10_clear_X3 tyX3 tyX3_ok nmX3 hown hK hP hD hS 2 rfl rfl 0 (by decide) (hts (.fieldLink RX10 40 "RungMoney$Ladders" "size" "I") (by decide +kernel)) (fun _ h9 => h9) rfl (by decide +kernel) rfl rfl (Nat.le_of_ble_eq_true rfl) dX10_clear_10 (fun H locs hP hD hS => ?_)
  have hP : va_P D vwCl [(a0, .inr (8, [.int 0, .ref a1, .ref a2, .ref a8, .ref a11, .int 1, .int 0, .int 0, .int 0])), (a1, .inl (k 1, 6, .inr (.inl (fun _ => 0)))), (a2, .inr (1, [.int 0, .ref a3, .ref a4, .ref a5, .ref a6, .ref a7])), (a3, .inl (k 0, 16, .inl (fun _ => 0))), (a4, .inl (k 0, 16, .inl (fun _ => 0))), (a5, .inl (k 0, 16, .inl (fun _ => 0))), (a6, .inl (k 0, 16, .inl (fun _ => 0))), (a7, .inl (k 0, 16, .inl (fun _ => 0))), (a8, .inr (0, [.ref a9, .ref a10])), (a9, .inl (k 0, 36, .inl (fun _ => 0))), (a10, .inl (k 0, 6, .inl (fun _ => 0))), (a11, .inl (k 0, 6, .inl (fun _ => 0)))] H := hP
  have hD : va_D A [(a0, .inr (8, [.int 0, .ref a1, .ref a2, .ref a8, .ref a11, .int 1, .int 0, .int 0, .int 0])), (a1, .inl (k 1, 6, .inr (.inl (fun _ => 0)))), (a2, .inr (1, [.int 0, .ref a3, .ref a4, .ref a5, .ref a6, .ref a7])), (a3, .inl (k 0, 16, .inl (fun _ => 0))), (a4, .inl (k 0, 16, .inl (fun _ => 0))), (a5, .inl (k 0, 16, .inl (fun _ => 0))), (a6, .inl (k 0, 16, .inl (fun _ => 0))), (a7, .inl (k 0, 16, .inl (fun _ => 0))), (a8, .inr (0, [.ref a9, .ref a10])), (a9, .inl (k 0, 36, .inl (fun _ => 0))), (a10, .inl (k 0, 6, .inl (fun _ => 0))), (a11, .inl (k 0, 6, .inl (fun _ => 0)))] := hD
  refine lv_aload_n hx hb dX10_clear_13 rfl (lv_at hl 0 rfl) ?_
  refine va_get (D := D) (ci := 8) (v := .ref a8) (C := RX10) (T := TX10) (N := 9) hx hb hts inX10_clear_X10 hown hK hP 0 rfl rfl 3 (by decide) (hts (.fieldLink RX10 25 "RungMoney$Town" "debts" "LRungMoney$Debts;") (by decide +kernel)) (fun _ h9 => h9) rfl dX10_clear_14 ?_
  refine g_vV (As := []) (rest := []) (wr := [(a0, .inr (8, [.int 0, .ref a1, .ref a2, .ref a8, .ref a11, .int 1, .int 0, .int 0, .int 0])), (a1, .inl (k 1, 6, .inr (.inl (fun _ => 0)))), (a2, .inr (1, [.int 0, .ref a3, .ref a4, .ref a5, .ref a6, .ref a7])), (a3, .inl (k 0, 16, .inl (fun _ => 0))), (a4, .inl (k 0, 16, .inl (fun _ => 0))), (a5, .inl (k 0, 16, .inl (fun _ => 0))), (a6, .inl (k 0, 16, .inl (fun _ => 0))), (a7, .inl (k 0, 16, .inl (fun _ => 0))), (a10, .inl (k 0, 6, .inl (fun _ => 0))), (a11, .inl (k 0, 6, .inl (fun _ => 0)))]) ⟨hx, hb, hml, hown, hts⟩ (cD_clear l D k a8 a9 a10) (cwV 0 hts gX10_clear_X1_clear rfl rfl rfl (by decide +kernel) ⟨Nat.le_of_ble_eq_true rfl, Nat.le_of_ble_eq_true rfl⟩) g_E0_ok (fun _ _ _ => trivial) hK hP hD hS hA 8 0 rfl rfl rfl [8, 9] [0, 1, 2, 3, 4, 5, 6, 7, 10, 11] rfl rfl (by decide) rfl hl.1 rfl (Nat.le_of_ble_eq_true rfl) dX10_clear_17 ⟨Nat.le_of_ble_eq_true rfl, Nat.le_of_ble_eq_true rfl⟩ (fun u1 H locs hP hD hS => ?_)
  have hP : va_P D vwCl [(a0, .inr (8, [.int 0, .ref a1, .ref a2, .ref a8, .ref a11, .int 1, .int 0, .int 0, .int 0])), (a1, .inl (k 1, 6, .inr (.inl (fun _ => 0)))), (a2, .inr (1, [.int 0, .ref a3, .ref a4, .ref a5, .ref a6, .ref a7])), (a3, .inl (k 0, 16, .inl (fun _ => 0))), (a4, .inl (k 0, 16, .inl (fun _ => 0))), (a5, .inl (k 0, 16, .inl (fun _ => 0))), (a6, .inl (k 0, 16, .inl (fun _ => 0))), (a7, .inl (k 0, 16, .inl (fun _ => 0))), (a10, .inl (k 0, 6, .inl (fun _ => 0))), (a11, .inl (k 0, 6, .inl (fun _ => 0))), (a8, .inr (0, [.ref a9, .ref a10])), (a9, .inl (k 0, 36, .inl (fun _ => 0)))] H := hP
  have hD : va_D A [(a0, .inr (8, [.int 0, .ref a1, .ref a2, .ref a8, .ref a11, .int 1, .int 0, .int 0, .int 0])), (a1, .inl (k 1, 6, .inr (.inl (fun _ => 0)))), (a2, .inr (1, [.int 0, .ref a3, .ref a4, .ref a5, .ref a6, .ref a7])), (a3, .inl (k 0, 16, .inl (fun _ => 0))), (a4, .inl (k 0, 16, .inl (fun _ => 0))), (a5, .inl (k 0, 16, .inl (fun _ => 0))), (a6, .inl (k 0, 16, .inl (fun _ => 0))), (a7, .inl (k 0, 16, .inl (fun _ => 0))), (a10, .inl (k 0, 6, .inl (fun _ => 0))), (a11, .inl (k 0, 6, .inl (fun _ => 0))), (a8, .inr (0, [.ref a9, .ref a10])), (a9, .inl (k 0, 36, .inl (fun _ => 0)))] := hD
  refine lv_aload_n hx hb dX10_clear_20 rfl (lv_at hl 0 rfl) ?_
  refine va_get (D := D) (ci := 8) (v := .ref a11) (C := RX10) (T := TX10) (N := 9) hx hb hts inX10_clear_X10 hown hK hP 0 rfl rfl 4 (by decide) (hts (.fieldLink RX10 29 "RungMoney$Town" "payments" "[I") (by decide +kernel)) (fun _ h9 => h9) rfl dX10_clear_21 ?_
  refine lv_iconst (v := 0) hx hb dX10_clear_24 (by decide) ?_
  refine g_vS (As := [.ref a11, .int 0]) (rest := []) (wr := [(a0, .inr (8, [.int 0, .ref a1, .ref a2, .ref a8, .ref a11, .int 1, .int 0, .int 0, .int 0])), (a1, .inl (k 1, 6, .inr (.inl (fun _ => 0)))), (a2, .inr (1, [.int 0, .ref a3, .ref a4, .ref a5, .ref a6, .ref a7])), (a3, .inl (k 0, 16, .inl (fun _ => 0))), (a4, .inl (k 0, 16, .inl (fun _ => 0))), (a5, .inl (k 0, 16, .inl (fun _ => 0))), (a6, .inl (k 0, 16, .inl (fun _ => 0))), (a7, .inl (k 0, 16, .inl (fun _ => 0))), (a10, .inl (k 0, 6, .inl (fun _ => 0))), (a8, .inr (0, [.ref a9, .ref a10])), (a9, .inl (k 0, 36, .inl (fun _ => 0)))]) ⟨hx, hb, hml, hown, hts⟩ (cFill6 l D k a11) (va_cwS 2 hts gX10_clear_J7_fill_53178 rfl rfl rfl (by decide +kernel) ⟨Nat.le_of_ble_eq_true rfl, Nat.le_of_ble_eq_true rfl⟩) g_E0_ok (fun _ _ _ => trivial) hK hP hD hS hA [9] [0, 1, 2, 3, 4, 5, 6, 7, 8, 10, 11] rfl rfl (by decide) rfl hl.1 rfl (Nat.le_of_ble_eq_true rfl) dX10_clear_25 ⟨Nat.le_of_ble_eq_true rfl, Nat.le_of_ble_eq_true rfl⟩ (fun u2 H locs hP hD hS => ?_)
  have hP : va_P D vwCl [(a0, .inr (8, [.int 0, .ref a1, .ref a2, .ref a8, .ref a11, .int 1, .int 0, .int 0, .int 0])), (a1, .inl (k 1, 6, .inr (.inl (fun _ => 0)))), (a2, .inr (1, [.int 0, .ref a3, .ref a4, .ref a5, .ref a6, .ref a7])), (a3, .inl (k 0, 16, .inl (fun _ => 0))), (a4, .inl (k 0, 16, .inl (fun _ => 0))), (a5, .inl (k 0, 16, .inl (fun _ => 0))), (a6, .inl (k 0, 16, .inl (fun _ => 0))), (a7, .inl (k 0, 16, .inl (fun _ => 0))), (a10, .inl (k 0, 6, .inl (fun _ => 0))), (a8, .inr (0, [.ref a9, .ref a10])), (a9, .inl (k 0, 36, .inl (fun _ => 0))), (a11, .inl (k 0, 6, .inl (fun _ => 0)))] H := hP
  have hD : va_D A [(a0, .inr (8, [.int 0, .ref a1, .ref a2, .ref a8, .ref a11, .int 1, .int 0, .int 0, .int 0])), (a1, .inl (k 1, 6, .inr (.inl (fun _ => 0)))), (a2, .inr (1, [.int 0, .ref a3, .ref a4, .ref a5, .ref a6, .ref a7])), (a3, .inl (k 0, 16, .inl (fun _ => 0))), (a4, .inl (k 0, 16, .inl (fun _ => 0))), (a5, .inl (k 0, 16, .inl (fun _ => 0))), (a6, .inl (k 0, 16, .inl (fun _ => 0))), (a7, .inl (k 0, 16, .inl (fun _ => 0))), (a10, .inl (k 0, 6, .inl (fun _ => 0))), (a8, .inr (0, [.ref a9, .ref a10])), (a9, .inl (k 0, 36, .inl (fun _ => 0))), (a11, .inl (k 0, 6, .inl (fun _ => 0)))] := hD
  refine lv_aload_n hx hb dX10_clear_28 rfl (lv_at hl 0 rfl) ?_
  refine lv_iconst (v := 1) hx hb dX10_clear_29 (by decide) ?_
  refine va_put (D := D) (ci := 8) (v := .int 1) (ty := .int) (C := RX10) (T := TX10) (N := 9) hx hb hts inX10_clear_X10 tyX10 tyX10_ok nmX10 hown hK hP hD hS 0 rfl rfl 5 (by decide) (hts (.fieldLink RX10 33 "RungMoney$Town" "rot" "I") (by decide +kernel)) (fun _ h9 => h9) rfl (by decide +kernel) rfl rfl (Nat.le_of_ble_eq_true rfl) dX10_clear_30 (fun H locs hP hD hS => ?_)
  have hP : va_P D vwCl [(a0, .inr (8, [.int 0, .ref a1, .ref a2, .ref a8, .ref a11, .int 1, .int 0, .int 0, .int 0])), (a1, .inl (k 1, 6, .inr (.inl (fun _ => 0)))), (a2, .inr (1, [.int 0, .ref a3, .ref a4, .ref a5, .ref a6, .ref a7])), (a3, .inl (k 0, 16, .inl (fun _ => 0))), (a4, .inl (k 0, 16, .inl (fun _ => 0))), (a5, .inl (k 0, 16, .inl (fun _ => 0))), (a6, .inl (k 0, 16, .inl (fun _ => 0))), (a7, .inl (k 0, 16, .inl (fun _ => 0))), (a10, .inl (k 0, 6, .inl (fun _ => 0))), (a8, .inr (0, [.ref a9, .ref a10])), (a9, .inl (k 0, 36, .inl (fun _ => 0))), (a11, .inl (k 0, 6, .inl (fun _ => 0)))] H := hP
  have hD : va_D A [(a0, .inr (8, [.int 0, .ref a1, .ref a2, .ref a8, .ref a11, .int 1, .int 0, .int 0, .int 0])), (a1, .inl (k 1, 6, .inr (.inl (fun _ => 0)))), (a2, .inr (1, [.int 0, .ref a3, .ref a4, .ref a5, .ref a6, .ref a7])), (a3, .inl (k 0, 16, .inl (fun _ => 0))), (a4, .inl (k 0, 16, .inl (fun _ => 0))), (a5, .inl (k 0, 16, .inl (fun _ => 0))), (a6, .inl (k 0, 16, .inl (fun _ => 0))), (a7, .inl (k 0, 16, .inl (fun _ => 0))), (a10, .inl (k 0, 6, .inl (fun _ => 0))), (a8, .inr (0, [.ref a9, .ref a10])), (a9, .inl (k 0, 36, .inl (fun _ => 0))), (a11, .inl (k 0, 6, .inl (fun _ => 0)))] := hD
  refine lv_aload_n hx hb dX10_clear_33 rfl (lv_at hl 0 rfl) ?_
  refine lv_iconst (v := 0) hx hb dX10_clear_34 (by decide) ?_
  refine va_put (D := D) (ci := 8) (v := .int 0) (ty := .int) (C := RX10) (T := TX10) (N := 9) hx hb hts inX10_clear_X10 tyX10 tyX10_ok nmX10 hown hK hP hD hS 0 rfl rfl 6 (by decide) (hts (.fieldLink RX10 52 "RungMoney$Town" "winters" "I") (by decide +kernel)) (fun _ h9 => h9) rfl (by decide +kernel) rfl rfl (Nat.le_of_ble_eq_true rfl) dX10_clear_35 (fun H locs hP hD hS => ?_)
  have hP : va_P D vwCl [(a0, .inr (8, [.int 0, .ref a1, .ref a2, .ref a8, .ref a11, .int 1, .int 0, .int 0, .int 0])), (a1, .inl (k 1, 6, .inr (.inl (fun _ => 0)))), (a2, .inr (1, [.int 0, .ref a3, .ref a4, .ref a5, .ref a6, .ref a7])), (a3, .inl (k 0, 16, .inl (fun _ => 0))), (a4, .inl (k 0, 16, .inl (fun _ => 0))), (a5, .inl (k 0, 16, .inl (fun _ => 0))), (a6, .inl (k 0, 16, .inl (fun _ => 0))), (a7, .inl (k 0, 16, .inl (fun _ => 0))), (a10, .inl (k 0, 6, .inl (fun _ => 0))), (a8, .inr (0, [.ref a9, .ref a10])), (a9, .inl (k 0, 36, .inl (fun _ => 0))), (a11, .inl (k 0, 6, .inl (fun _ => 0)))] H := hP
  have hD : va_D A [(a0, .inr (8, [.int 0, .ref a1, .ref a2, .ref a8, .ref a11, .int 1, .int 0, .int 0, .int 0])), (a1, .inl (k 1, 6, .inr (.inl (fun _ => 0)))), (a2, .inr (1, [.int 0, .ref a3, .ref a4, .ref a5, .ref a6, .ref a7])), (a3, .inl (k 0, 16, .inl (fun _ => 0))), (a4, .inl (k 0, 16, .inl (fun _ => 0))), (a5, .inl (k 0, 16, .inl (fun _ => 0))), (a6, .inl (k 0, 16, .inl (fun _ => 0))), (a7, .inl (k 0, 16, .inl (fun _ => 0))), (a10, .inl (k 0, 6, .inl (fun _ => 0))), (a8, .inr (0, [.ref a9, .ref a10])), (a9, .inl (k 0, 36, .inl (fun _ => 0))), (a11, .inl (k 0, 6, .inl (fun _ => 0)))] := hD
  refine lv_aload_n hx hb dX10_clear_38 rfl (lv_at hl 0 rfl) ?_
  refine lv_iconst (v := 0) hx hb dX10_clear_39 (by decide) ?_
  refine va_put (D := D) (ci := 8) (v := .int 0) (ty := .int) (C := RX10) (T := TX10) (N := 9) hx hb hts inX10_clear_X10 tyX10 tyX10_ok nmX10 hown hK hP hD hS 0 rfl rfl 7 (by decide) (hts (.fieldLink RX10 55 "RungMoney$Town" "mint" "I") (by decide +kernel)) (fun _ h9 => h9) rfl (by decide +kernel) rfl rfl (Nat.le_of_ble_eq_true rfl) dX10_clear_40 (fun H locs hP hD hS => ?_)
  have hP : va_P D vwCl [(a0, .inr (8, [.int 0, .ref a1, .ref a2, .ref a8, .ref a11, .int 1, .int 0, .int 0, .int 0])), (a1, .inl (k 1, 6, .inr (.inl (fun _ => 0)))), (a2, .inr (1, [.int 0, .ref a3, .ref a4, .ref a5, .ref a6, .ref a7])), (a3, .inl (k 0, 16, .inl (fun _ => 0))), (a4, .inl (k 0, 16, .inl (fun _ => 0))), (a5, .inl (k 0, 16, .inl (fun _ => 0))), (a6, .inl (k 0, 16, .inl (fun _ => 0))), (a7, .inl (k 0, 16, .inl (fun _ => 0))), (a10, .inl (k 0, 6, .inl (fun _ => 0))), (a8, .inr (0, [.ref a9, .ref a10])), (a9, .inl (k 0, 36, .inl (fun _ => 0))), (a11, .inl (k 0, 6, .inl (fun _ => 0)))] H := hP
  have hD : va_D A [(a0, .inr (8, [.int 0, .ref a1, .ref a2, .ref a8, .ref a11, .int 1, .int 0, .int 0, .int 0])), (a1, .inl (k 1, 6, .inr (.inl (fun _ => 0)))), (a2, .inr (1, [.int 0, .ref a3, .ref a4, .ref a5, .ref a6, .ref a7])), (a3, .inl (k 0, 16, .inl (fun _ => 0))), (a4, .inl (k 0, 16, .inl (fun _ => 0))), (a5, .inl (k 0, 16, .inl (fun _ => 0))), (a6, .inl (k 0, 16, .inl (fun _ => 0))), (a7, .inl (k 0, 16, .inl (fun _ => 0))), (a10, .inl (k 0, 6, .inl (fun _ => 0))), (a8, .inr (0, [.ref a9, .ref a10])), (a9, .inl (k 0, 36, .inl (fun _ => 0))), (a11, .inl (k 0, 6, .inl (fun _ => 0)))] := hD
  refine lv_aload_n hx hb dX10_clear_43 rfl (lv_at hl 0 rfl) ?_
  refine lv_iconst (v := 0) hx hb dX10_clear_44 (by decide) ?_
  refine va_put (D := D) (ci := 8) (v := .int 0) (ty := .int) (C := RX10) (T := TX10) (N := 9) hx hb hts inX10_clear_X10 tyX10 tyX10_ok nmX10 hown hK hP hD hS 0 rfl rfl 8 (by decide) (hts (.fieldLink RX10 58 "RungMoney$Town" "cuts" "I") (by decide +kernel)) (fun _ h9 => h9) rfl (by decide +kernel) rfl rfl (Nat.le_of_ble_eq_true rfl) dX10_clear_45 (fun H locs hP hD hS => ?_)
  have hP : va_P D vwCl [(a0, .inr (8, [.int 0, .ref a1, .ref a2, .ref a8, .ref a11, .int 1, .int 0, .int 0, .int 0])), (a1, .inl (k 1, 6, .inr (.inl (fun _ => 0)))), (a2, .inr (1, [.int 0, .ref a3, .ref a4, .ref a5, .ref a6, .ref a7])), (a3, .inl (k 0, 16, .inl (fun _ => 0))), (a4, .inl (k 0, 16, .inl (fun _ => 0))), (a5, .inl (k 0, 16, .inl (fun _ => 0))), (a6, .inl (k 0, 16, .inl (fun _ => 0))), (a7, .inl (k 0, 16, .inl (fun _ => 0))), (a10, .inl (k 0, 6, .inl (fun _ => 0))), (a8, .inr (0, [.ref a9, .ref a10])), (a9, .inl (k 0, 36, .inl (fun _ => 0))), (a11, .inl (k 0, 6, .inl (fun _ => 0)))] H := hP
  have hD : va_D A [(a0, .inr (8, [.int 0, .ref a1, .ref a2, .ref a8, .ref a11, .int 1, .int 0, .int 0, .int 0])), (a1, .inl (k 1, 6, .inr (.inl (fun _ => 0)))), (a2, .inr (1, [.int 0, .ref a3, .ref a4, .ref a5, .ref a6, .ref a7])), (a3, .inl (k 0, 16, .inl (fun _ => 0))), (a4, .inl (k 0, 16, .inl (fun _ => 0))), (a5, .inl (k 0, 16, .inl (fun _ => 0))), (a6, .inl (k 0, 16, .inl (fun _ => 0))), (a7, .inl (k 0, 16, .inl (fun _ => 0))), (a10, .inl (k 0, 6, .inl (fun _ => 0))), (a8, .inr (0, [.ref a9, .ref a10])), (a9, .inl (k 0, 36, .inl (fun _ => 0))), (a11, .inl (k 0, 6, .inl (fun _ => 0)))] := hD
  have hP := hP.sub (ws' := [(a0, .inr (8, [.int 0, .ref a1, .ref a2, .ref a8, .ref a11, .int 1, .int 0, .int 0, .int 0])), (a1, .inl (k 1, 6, .inr (.inl (fun _ => 0)))), (a2, .inr (1, [.int 0, .ref a3, .ref a4, .ref a5, .ref a6, .ref a7])), (a3, .inl (k 0, 16, .inl (fun _ => 0))), (a4, .inl (k 0, 16, .inl (fun _ => 0))), (a5, .inl (k 0, 16, .inl (fun _ => 0))), (a6, .inl (k 0, 16, .inl (fun _ => 0))), (a7, .inl (k 0, 16, .inl (fun _ => 0))), (a8, .inr (0, [.ref a9, .ref a10])), (a9, .inl (k 0, 36, .inl (fun _ => 0))), (a10, .inl (k 0, 6, .inl (fun _ => 0))), (a11, .inl (k 0, 6, .inl (fun _ => 0)))]) [0, 1, 2, 3, 4, 5, 6, 7, 9, 10, 8, 11] rfl
  have hD := hD.sub (ws' := [(a0, .inr (8, [.int 0, .ref a1, .ref a2, .ref a8, .ref a11, .int 1, .int 0, .int 0, .int 0])), (a1, .inl (k 1, 6, .inr (.inl (fun _ => 0)))), (a2, .inr (1, [.int 0, .ref a3, .ref a4, .ref a5, .ref a6, .ref a7])), (a3, .inl (k 0, 16, .inl (fun _ => 0))), (a4, .inl (k 0, 16, .inl (fun _ => 0))), (a5, .inl (k 0, 16, .inl (fun _ => 0))), (a6, .inl (k 0, 16, .inl (fun _ => 0))), (a7, .inl (k 0, 16, .inl (fun _ => 0))), (a8, .inr (0, [.ref a9, .ref a10])), (a9, .inl (k 0, 36, .inl (fun _ => 0))), (a10, .inl (k 0, 6, .inl (fun _ => 0))), (a11, .inl (k 0, 6, .inl (fun _ => 0)))]) [0, 1, 2, 3, 4, 5, 6, 7, 9, 10, 8, 11] (by decide) rfl
  exact g_vret hx hb hr hlocks hK (fun _ => 0) hP hD hS dX10_clear_48 ⟨Nat.le_of_ble_eq_true rfl, Nat.le_of_ble_eq_true rfl⟩
set_option maxHeartbeats 4000000 in
set_option maxRecDepth 100000 in
theorem cT_copy (l : Launch) (D : va_G) (k : Nat → ClassId) (a0 : Nat) (a1 : Nat) (a2 : Nat) (a3 : Nat) (a4 : Nat) (a5 : Nat) (a6 : Nat) (a7 : Nat) (a8 : Nat) (a9 : Nat) (a10 : Nat) (a11 : Nat) (b0 : Nat) (b1 : Nat) (b2 : Nat) (b3 : Nat) (b4 : Nat) (b5 : Nat) (b6 : Nat) (b7 : Nat) (b8 : Nat) (b9 : Nat) (b10 : Nat) (b11 : Nat) : g_Cv l yX10_copy wsX10_copy ({ frames := 2, cells := 0, slots := 0, locals := 81 }) D k g_E0 [.ref a0, .ref b0] [(a0, .inr (8, [.int 0, .ref a1, .ref a2, .ref a8, .ref a11, .int 1, .int 0, .int 0, .int 0])), (a1, .inl (k 1, 6, .inr (.inl (fun _ => 0)))), (a2, .inr (1, [.int 0, .ref a3, .ref a4, .ref a5, .ref a6, .ref a7])), (a3, .inl (k 0, 16, .inl (fun _ => 0))), (a4, .inl (k 0, 16, .inl (fun _ => 0))), (a5, .inl (k 0, 16, .inl (fun _ => 0))), (a6, .inl (k 0, 16, .inl (fun _ => 0))), (a7, .inl (k 0, 16, .inl (fun _ => 0))), (a8, .inr (0, [.ref a9, .ref a10])), (a9, .inl (k 0, 36, .inl (fun _ => 0))), (a10, .inl (k 0, 6, .inl (fun _ => 0))), (a11, .inl (k 0, 6, .inl (fun _ => 0))), (b0, .inr (8, [.int 0, .ref b1, .ref b2, .ref b8, .ref b11, .int 1, .int 0, .int 0, .int 0])), (b1, .inl (k 1, 6, .inr (.inl (fun _ => 0)))), (b2, .inr (1, [.int 0, .ref b3, .ref b4, .ref b5, .ref b6, .ref b7])), (b3, .inl (k 0, 16, .inl (fun _ => 0))), (b4, .inl (k 0, 16, .inl (fun _ => 0))), (b5, .inl (k 0, 16, .inl (fun _ => 0))), (b6, .inl (k 0, 16, .inl (fun _ => 0))), (b7, .inl (k 0, 16, .inl (fun _ => 0))), (b8, .inr (0, [.ref b9, .ref b10])), (b9, .inl (k 0, 36, .inl (fun _ => 0))), (b10, .inl (k 0, 6, .inl (fun _ => 0))), (b11, .inl (k 0, 6, .inl (fun _ => 0)))] (fun u => [(a0, .inr (8, [.int 0, .ref a1, .ref a2, .ref a8, .ref a11, .int 1, .int 0, .int 0, .int 0])), (a1, .inl (k 1, 6, .inr (.inl (fun _ => 0)))), (a2, .inr (1, [.int 0, .ref a3, .ref a4, .ref a5, .ref a6, .ref a7])), (a3, .inl (k 0, 16, .inl (fun _ => 0))), (a4, .inl (k 0, 16, .inl (fun _ => 0))), (a5, .inl (k 0, 16, .inl (fun _ => 0))), (a6, .inl (k 0, 16, .inl (fun _ => 0))), (a7, .inl (k 0, 16, .inl (fun _ => 0))), (a8, .inr (0, [.ref a9, .ref a10])), (a9, .inl (k 0, 36, .inl (fun _ => 0))), (a10, .inl (k 0, 6, .inl (fun _ => 0))), (a11, .inl (k 0, 6, .inl (fun _ => 0))), (b0, .inr (8, [.int 0, .ref b1, .ref b2, .ref b8, .ref b11, .int 1, .int 0, .int 0, .int 0])), (b1, .inl (k 1, 6, .inr (.inl (fun _ => 0)))), (b2, .inr (1, [.int 0, .ref b3, .ref b4, .ref b5, .ref b6, .ref b7])), (b3, .inl (k 0, 16, .inl (fun _ => 0))), (b4, .inl (k 0, 16, .inl (fun _ => 0))), (b5, .inl (k 0, 16, .inl (fun _ => 0))), (b6, .inl (k 0, 16, .inl (fun _ => 0))), (b7, .inl (k 0, 16, .inl (fun _ => 0))), (b8, .inr (0, [.ref b9, .ref b10])), (b9, .inl (k 0, 36, .inl (fun _ => 0))), (b10, .inl (k 0, 6, .inl (fun _ => 0))), (b11, .inl (k 0, 6, .inl (fun _ => 0)))]) 0 0 := by
  intro sz
  refine Met.ofW (cc := cX10_copy) (maxL := 2) (ret := none) (by decide) rfl ?_
  intro p e s m args below meth c s₁ B hml hv
  obtain ⟨rfl, hsz, hP, hK, hD0, hE⟩ := hv
  have hx := B.exec
  have hb := B.bytes
  have hr := B.returns
  have hts := atoms_spec (ws := wsX10_copy) B.pre
  have hown : s.vm.findClass RX10 = some m.cls := findClass_of_methodNamed B.named
  have hlocks := B.notSynchronized
  subst hsz
  have hD := hD0.self (sz := s.heap.size)
  generalize hAe : va_A [(a0, .inr (8, [.int 0, .ref a1, .ref a2, .ref a8, .ref a11, .int 1, .int 0, .int 0, .int 0])), (a1, .inl (k 1, 6, .inr (.inl (fun _ => 0)))), (a2, .inr (1, [.int 0, .ref a3, .ref a4, .ref a5, .ref a6, .ref a7])), (a3, .inl (k 0, 16, .inl (fun _ => 0))), (a4, .inl (k 0, 16, .inl (fun _ => 0))), (a5, .inl (k 0, 16, .inl (fun _ => 0))), (a6, .inl (k 0, 16, .inl (fun _ => 0))), (a7, .inl (k 0, 16, .inl (fun _ => 0))), (a8, .inr (0, [.ref a9, .ref a10])), (a9, .inl (k 0, 36, .inl (fun _ => 0))), (a10, .inl (k 0, 6, .inl (fun _ => 0))), (a11, .inl (k 0, 6, .inl (fun _ => 0))), (b0, .inr (8, [.int 0, .ref b1, .ref b2, .ref b8, .ref b11, .int 1, .int 0, .int 0, .int 0])), (b1, .inl (k 1, 6, .inr (.inl (fun _ => 0)))), (b2, .inr (1, [.int 0, .ref b3, .ref b4, .ref b5, .ref b6, .ref b7])), (b3, .inl (k 0, 16, .inl (fun _ => 0))), (b4, .inl (k 0, 16, .inl (fun _ => 0))), (b5, .inl (k 0, 16, .inl (fun _ => 0))), (b6, .inl (k 0, 16, .inl (fun _ => 0))), (b7, .inl (k 0, 16, .inl (fun _ => 0))), (b8, .inr (0, [.ref b9, .ref b10])), (b9, .inl (k 0, 36, .inl (fun _ => 0))), (b10, .inl (k 0, 6, .inl (fun _ => 0))), (b11, .inl (k 0, 6, .inl (fun _ => 0)))] s.heap.size = A at hD ⊢
  have hA : ∀ q : Nat, s.heap.size ≤ q → A q := fun q h => by rw [← hAe]; exact Or.inr h
  have hS : va_S A s.heap s.heap [] := va_S.rf
  have hP : va_P D vwCl [(a0, .inr (8, [.int 0, .ref a1, .ref a2, .ref a8, .ref a11, .int 1, .int 0, .int 0, .int 0])), (a1, .inl (k 1, 6, .inr (.inl (fun _ => 0)))), (a2, .inr (1, [.int 0, .ref a3, .ref a4, .ref a5, .ref a6, .ref a7])), (a3, .inl (k 0, 16, .inl (fun _ => 0))), (a4, .inl (k 0, 16, .inl (fun _ => 0))), (a5, .inl (k 0, 16, .inl (fun _ => 0))), (a6, .inl (k 0, 16, .inl (fun _ => 0))), (a7, .inl (k 0, 16, .inl (fun _ => 0))), (a8, .inr (0, [.ref a9, .ref a10])), (a9, .inl (k 0, 36, .inl (fun _ => 0))), (a10, .inl (k 0, 6, .inl (fun _ => 0))), (a11, .inl (k 0, 6, .inl (fun _ => 0))), (b0, .inr (8, [.int 0, .ref b1, .ref b2, .ref b8, .ref b11, .int 1, .int 0, .int 0, .int 0])), (b1, .inl (k 1, 6, .inr (.inl (fun _ => 0)))), (b2, .inr (1, [.int 0, .ref b3, .ref b4, .ref b5, .ref b6, .ref b7])), (b3, .inl (k 0, 16, .inl (fun _ => 0))), (b4, .inl (k 0, 16, .inl (fun _ => 0))), (b5, .inl (k 0, 16, .inl (fun _ => 0))), (b6, .inl (k 0, 16, .inl (fun _ => 0))), (b7, .inl (k 0, 16, .inl (fun _ => 0))), (b8, .inr (0, [.ref b9, .ref b10])), (b9, .inl (k 0, 36, .inl (fun _ => 0))), (b10, .inl (k 0, 6, .inl (fun _ => 0))), (b11, .inl (k 0, 6, .inl (fun _ => 0)))] s.heap := hP
  have hl := lv_entry ([.ref a0, .ref b0]) (n := 2) (Nat.le_of_ble_eq_true rfl)
  rw [lg_entry_eq]
  generalize (lg_sl ([.ref a0, .ref b0]) ++ List.replicate (2 - (lg_sl ([.ref a0, .ref b0])).length) Slot.unset).toArray = ls at hl ⊢
  have hl : lv_has ls 2 [(0, .ref a0), (1, .ref b0)] := hl
  refine lv_aload_n hx hb dX10_copy_0 rfl (lv_at hl 0 rfl) ?_
  refine lv_aload_n hx hb dX10_copy_1 rfl (lv_at hl 1 rfl) ?_
  refine va_get (D := D) (ci := 8) (v := .int 0) (C := RX10) (T := TX10) (N := 9) hx hb hts inX10_copy_X10 hown hK hP 12 rfl rfl 0 (by decide) (hts (.fieldLink RX10 37 "RungMoney$Town" "men" "I") (by decide +kernel)) (fun _ h9 => h9) rfl dX10_copy_2 ?_
  refine va_put (D := D) (ci := 8) (v := .int 0) (ty := .int) (C := RX10) (T := TX10) (N := 9) hx hb hts inX10_copy_X10 tyX10 tyX10_ok nmX10 hown hK hP hD hS 0 rfl rfl 0 (by decide) (hts (.fieldLink RX10 37 "RungMoney$Town" "men" "I") (by decide +kernel)) (fun _ h9 => h9) rfl (by decide +kernel) rfl rfl (Nat.le_of_ble_eq_true rfl) dX10_copy_5 (fun H locs hP hD hS => ?_)
  have hP : va_P D vwCl [(a0, .inr (8, [.int 0, .ref a1, .ref a2, .ref a8, .ref a11, .int 1, .int 0, .int 0, .int 0])), (a1, .inl (k 1, 6, .inr (.inl (fun _ => 0)))), (a2, .inr (1, [.int 0, .ref a3, .ref a4, .ref a5, .ref a6, .ref a7])), (a3, .inl (k 0, 16, .inl (fun _ => 0))), (a4, .inl (k 0, 16, .inl (fun _ => 0))), (a5, .inl (k 0, 16, .inl (fun _ => 0))), (a6, .inl (k 0, 16, .inl (fun _ => 0))), (a7, .inl (k 0, 16, .inl (fun _ => 0))), (a8, .inr (0, [.ref a9, .ref a10])), (a9, .inl (k 0, 36, .inl (fun _ => 0))), (a10, .inl (k 0, 6, .inl (fun _ => 0))), (a11, .inl (k 0, 6, .inl (fun _ => 0))), (b0, .inr (8, [.int 0, .ref b1, .ref b2, .ref b8, .ref b11, .int 1, .int 0, .int 0, .int 0])), (b1, .inl (k 1, 6, .inr (.inl (fun _ => 0)))), (b2, .inr (1, [.int 0, .ref b3, .ref b4, .ref b5, .ref b6, .ref b7])), (b3, .inl (k 0, 16, .inl (fun _ => 0))), (b4, .inl (k 0, 16, .inl (fun _ => 0))), (b5, .inl (k 0, 16, .inl (fun _ => 0))), (b6, .inl (k 0, 16, .inl (fun _ => 0))), (b7, .inl (k 0, 16, .inl (fun _ => 0))), (b8, .inr (0, [.ref b9, .ref b10])), (b9, .inl (k 0, 36, .inl (fun _ => 0))), (b10, .inl (k 0, 6, .inl (fun _ => 0))), (b11, .inl (k 0, 6, .inl (fun _ => 0)))] H := hP
  have hD : va_D A [(a0, .inr (8, [.int 0, .ref a1, .ref a2, .ref a8, .ref a11, .int 1, .int 0, .int 0, .int 0])), (a1, .inl (k 1, 6, .inr (.inl (fun _ => 0)))), (a2, .inr (1, [.int 0, .ref a3, .ref a4, .ref a5, .ref a6, .ref a7])), (a3, .inl (k 0, 16, .inl (fun _ => 0))), (a4, .inl (k 0, 16, .inl (fun _ => 0))), (a5, .inl (k 0, 16, .inl (fun _ => 0))), (a6, .inl (k 0, 16, .inl (fun _ => 0))), (a7, .inl (k 0, 16, .inl (fun _ => 0))), (a8, .inr (0, [.ref a9, .ref a10])), (a9, .inl (k 0, 36, .inl (fun _ => 0))), (a10, .inl (k 0, 6, .inl (fun _ => 0))), (a11, .inl (k 0, 6, .inl (fun _ => 0))), (b0, .inr (8, [.int 0, .ref b1, .ref b2, .ref b8, .ref b11, .int 1, .int 0, .int 0, .int 0])), (b1, .inl (k 1, 6, .inr (.inl (fun _ => 0)))), (b2, .inr (1, [.int 0, .ref b3, .ref b4, .ref b5, .ref b6, .ref b7])), (b3, .inl (k 0, 16, .inl (fun _ => 0))), (b4, .inl (k 0, 16, .inl (fun _ => 0))), (b5, .inl (k 0, 16, .inl (fun _ => 0))), (b6, .inl (k 0, 16, .inl (fun _ => 0))), (b7, .inl (k 0, 16, .inl (fun _ => 0))), (b8, .inr (0, [.ref b9, .ref b10])), (b9, .inl (k 0, 36, .inl (fun _ => 0))), (b10, .inl (k 0, 6, .inl (fun _ => 0))), (b11, .inl (k 0, 6, .inl (fun _ => 0)))] := hD
  refine lv_aload_n hx hb dX10_copy_8 rfl (lv_at hl 1 rfl) ?_
  refine va_get (D := D) (ci := 8) (v := .ref b1) (C := RX10) (T := TX10) (N := 9) hx hb hts inX10_copy_X10 hown hK hP 12 rfl rfl 1 (by decide) (hts (.fieldLink RX10 9 "RungMoney$Town" "names" "[J") (by decide +kernel)) (fun _ h9 => h9) rfl dX10_copy_9 ?_
  refine lv_iconst (v := 0) hx hb dX10_copy_12 (by decide) ?_
  refine lv_aload_n hx hb dX10_copy_13 rfl (lv_at hl 0 rfl) ?_
  refine va_get (D := D) (ci := 8) (v := .ref a1) (C := RX10) (T := TX10) (N := 9) hx hb hts inX10_copy_X10 hown hK hP 0 rfl rfl 1 (by decide) (hts (.fieldLink RX10 9 "RungMoney$Town" "names" "[J") (by decide +kernel)) (fun _ h9 => h9) rfl dX10_copy_14 ?_
  refine lv_iconst (v := 0) hx hb dX10_copy_17 (by decide) ?_
  refine lv_bipush (v := 6) hx hb dX10_copy_18 (by decide) ?_
  refine va_copyl hx hb (by rw [hml]; exact hl.1.symm) hown (hts (.methodLink RX10 61 arraycopyName) (by decide +kernel)) (hts (.native arraycopyName) (by decide +kernel)) (hts (.static arraycopyName) (by decide +kernel)) (hts (.initialized "java/lang/System") (by decide +kernel)) hK hP hD hS 13 1 1 1 rfl rfl rfl rfl rfl (by decide) (by decide) (by decide) (by decide) (by decide) (fun _ _ => rfl) (Nat.le_of_ble_eq_true rfl) (by decide +kernel) dX10_copy_20 (fun H locs hP hD hS => ?_)
  have hP : va_P D vwCl [(a0, .inr (8, [.int 0, .ref a1, .ref a2, .ref a8, .ref a11, .int 1, .int 0, .int 0, .int 0])), (a1, .inl (k 1, 6, .inr (.inl (fun _ => 0)))), (a2, .inr (1, [.int 0, .ref a3, .ref a4, .ref a5, .ref a6, .ref a7])), (a3, .inl (k 0, 16, .inl (fun _ => 0))), (a4, .inl (k 0, 16, .inl (fun _ => 0))), (a5, .inl (k 0, 16, .inl (fun _ => 0))), (a6, .inl (k 0, 16, .inl (fun _ => 0))), (a7, .inl (k 0, 16, .inl (fun _ => 0))), (a8, .inr (0, [.ref a9, .ref a10])), (a9, .inl (k 0, 36, .inl (fun _ => 0))), (a10, .inl (k 0, 6, .inl (fun _ => 0))), (a11, .inl (k 0, 6, .inl (fun _ => 0))), (b0, .inr (8, [.int 0, .ref b1, .ref b2, .ref b8, .ref b11, .int 1, .int 0, .int 0, .int 0])), (b1, .inl (k 1, 6, .inr (.inl (fun _ => 0)))), (b2, .inr (1, [.int 0, .ref b3, .ref b4, .ref b5, .ref b6, .ref b7])), (b3, .inl (k 0, 16, .inl (fun _ => 0))), (b4, .inl (k 0, 16, .inl (fun _ => 0))), (b5, .inl (k 0, 16, .inl (fun _ => 0))), (b6, .inl (k 0, 16, .inl (fun _ => 0))), (b7, .inl (k 0, 16, .inl (fun _ => 0))), (b8, .inr (0, [.ref b9, .ref b10])), (b9, .inl (k 0, 36, .inl (fun _ => 0))), (b10, .inl (k 0, 6, .inl (fun _ => 0))), (b11, .inl (k 0, 6, .inl (fun _ => 0)))] H := by rw [g_cpyL] at hP; exact hP
  have hD : va_D A [(a0, .inr (8, [.int 0, .ref a1, .ref a2, .ref a8, .ref a11, .int 1, .int 0, .int 0, .int 0])), (a1, .inl (k 1, 6, .inr (.inl (fun _ => 0)))), (a2, .inr (1, [.int 0, .ref a3, .ref a4, .ref a5, .ref a6, .ref a7])), (a3, .inl (k 0, 16, .inl (fun _ => 0))), (a4, .inl (k 0, 16, .inl (fun _ => 0))), (a5, .inl (k 0, 16, .inl (fun _ => 0))), (a6, .inl (k 0, 16, .inl (fun _ => 0))), (a7, .inl (k 0, 16, .inl (fun _ => 0))), (a8, .inr (0, [.ref a9, .ref a10])), (a9, .inl (k 0, 36, .inl (fun _ => 0))), (a10, .inl (k 0, 6, .inl (fun _ => 0))), (a11, .inl (k 0, 6, .inl (fun _ => 0))), (b0, .inr (8, [.int 0, .ref b1, .ref b2, .ref b8, .ref b11, .int 1, .int 0, .int 0, .int 0])), (b1, .inl (k 1, 6, .inr (.inl (fun _ => 0)))), (b2, .inr (1, [.int 0, .ref b3, .ref b4, .ref b5, .ref b6, .ref b7])), (b3, .inl (k 0, 16, .inl (fun _ => 0))), (b4, .inl (k 0, 16, .inl (fun _ => 0))), (b5, .inl (k 0, 16, .inl (fun _ => 0))), (b6, .inl (k 0, 16, .inl (fun _ => 0))), (b7, .inl (k 0, 16, .inl (fun _ => 0))), (b8, .inr (0, [.ref b9, .ref b10])), (b9, .inl (k 0, 36, .inl (fun _ => 0))), (b10, .inl (k 0, 6, .inl (fun _ => 0))), (b11, .inl (k 0, 6, .inl (fun _ => 0)))] := by rw [g_cpyL] at hD; exact hD
  refine lv_aload_n hx hb dX10_copy_23 rfl (lv_at hl 0 rfl) ?_
  refine va_get (D := D) (ci := 8) (v := .ref a2) (C := RX10) (T := TX10) (N := 9) hx hb hts inX10_copy_X10 hown hK hP 0 rfl rfl 2 (by decide) (hts (.fieldLink RX10 18 "RungMoney$Town" "ladders" "LRungMoney$Ladders;") (by decide +kernel)) (fun _ h9 => h9) rfl dX10_copy_24 ?_
  refine lv_aload_n hx hb dX10_copy_27 rfl (lv_at hl 1 rfl) ?_
  refine va_get (D := D) (ci := 8) (v := .ref b2) (C := RX10) (T := TX10) (N := 9) hx hb hts inX10_copy_X10 hown hK hP 12 rfl rfl 2 (by decide) (hts (.fieldLink RX10 18 "RungMoney$Town" "ladders" "LRungMoney$Ladders;") (by decide +kernel)) (fun _ h9 => h9) rfl dX10_copy_28 ?_
  refine g_vV (As := [.ref b2]) (rest := []) (wr := [(a0, .inr (8, [.int 0, .ref a1, .ref a2, .ref a8, .ref a11, .int 1, .int 0, .int 0, .int 0])), (a1, .inl (k 1, 6, .inr (.inl (fun _ => 0)))), (a8, .inr (0, [.ref a9, .ref a10])), (a9, .inl (k 0, 36, .inl (fun _ => 0))), (a10, .inl (k 0, 6, .inl (fun _ => 0))), (a11, .inl (k 0, 6, .inl (fun _ => 0))), (b0, .inr (8, [.int 0, .ref b1, .ref b2, .ref b8, .ref b11, .int 1, .int 0, .int 0, .int 0])), (b1, .inl (k 1, 6, .inr (.inl (fun _ => 0)))), (b8, .inr (0, [.ref b9, .ref b10])), (b9, .inl (k 0, 36, .inl (fun _ => 0))), (b10, .inl (k 0, 6, .inl (fun _ => 0))), (b11, .inl (k 0, 6, .inl (fun _ => 0)))]) ⟨hx, hb, hml, hown, hts⟩ (cL_copy l D k a2 a3 a4 a5 a6 a7 b2 b3 b4 b5 b6 b7) (cwV 1 hts gX10_copy_X3_copy rfl rfl rfl (by decide +kernel) ⟨Nat.le_of_ble_eq_true rfl, Nat.le_of_ble_eq_true rfl⟩) g_E0_ok (fun _ _ _ => trivial) hK hP hD hS hA 2 1 rfl rfl rfl [2, 3, 4, 5, 6, 7, 14, 15, 16, 17, 18, 19] [0, 1, 8, 9, 10, 11, 12, 13, 20, 21, 22, 23] rfl rfl (by decide) rfl hl.1 rfl (Nat.le_of_ble_eq_true rfl) dX10_copy_31 ⟨Nat.le_of_ble_eq_true rfl, Nat.le_of_ble_eq_true rfl⟩ (fun u1 H locs hP hD hS => ?_)
  have hP : va_P D vwCl [(a0, .inr (8, [.int 0, .ref a1, .ref a2, .ref a8, .ref a11, .int 1, .int 0, .int 0, .int 0])), (a1, .inl (k 1, 6, .inr (.inl (fun _ => 0)))), (a8, .inr (0, [.ref a9, .ref a10])), (a9, .inl (k 0, 36, .inl (fun _ => 0))), (a10, .inl (k 0, 6, .inl (fun _ => 0))), (a11, .inl (k 0, 6, .inl (fun _ => 0))), (b0, .inr (8, [.int 0, .ref b1, .ref b2, .ref b8, .ref b11, .int 1, .int 0, .int 0, .int 0])), (b1, .inl (k 1, 6, .inr (.inl (fun _ => 0)))), (b8, .inr (0, [.ref b9, .ref b10])), (b9, .inl (k 0, 36, .inl (fun _ => 0))), (b10, .inl (k 0, 6, .inl (fun _ => 0))), (b11, .inl (k 0, 6, .inl (fun _ => 0))), (a2, .inr (1, [.int 0, .ref a3, .ref a4, .ref a5, .ref a6, .ref a7])), (a3, .inl (k 0, 16, .inl (fun _ => 0))), (a4, .inl (k 0, 16, .inl (fun _ => 0))), (a5, .inl (k 0, 16, .inl (fun _ => 0))), (a6, .inl (k 0, 16, .inl (fun _ => 0))), (a7, .inl (k 0, 16, .inl (fun _ => 0))), (b2, .inr (1, [.int 0, .ref b3, .ref b4, .ref b5, .ref b6, .ref b7])), (b3, .inl (k 0, 16, .inl (fun _ => 0))), (b4, .inl (k 0, 16, .inl (fun _ => 0))), (b5, .inl (k 0, 16, .inl (fun _ => 0))), (b6, .inl (k 0, 16, .inl (fun _ => 0))), (b7, .inl (k 0, 16, .inl (fun _ => 0)))] H := hP
  have hD : va_D A [(a0, .inr (8, [.int 0, .ref a1, .ref a2, .ref a8, .ref a11, .int 1, .int 0, .int 0, .int 0])), (a1, .inl (k 1, 6, .inr (.inl (fun _ => 0)))), (a8, .inr (0, [.ref a9, .ref a10])), (a9, .inl (k 0, 36, .inl (fun _ => 0))), (a10, .inl (k 0, 6, .inl (fun _ => 0))), (a11, .inl (k 0, 6, .inl (fun _ => 0))), (b0, .inr (8, [.int 0, .ref b1, .ref b2, .ref b8, .ref b11, .int 1, .int 0, .int 0, .int 0])), (b1, .inl (k 1, 6, .inr (.inl (fun _ => 0)))), (b8, .inr (0, [.ref b9, .ref b10])), (b9, .inl (k 0, 36, .inl (fun _ => 0))), (b10, .inl (k 0, 6, .inl (fun _ => 0))), (b11, .inl (k 0, 6, .inl (fun _ => 0))), (a2, .inr (1, [.int 0, .ref a3, .ref a4, .ref a5, .ref a6, .ref a7])), (a3, .inl (k 0, 16, .inl (fun _ => 0))), (a4, .inl (k 0, 16, .inl (fun _ => 0))), (a5, .inl (k 0, 16, .inl (fun _ => 0))), (a6, .inl (k 0, 16, .inl (fun _ => 0))), (a7, .inl (k 0, 16, .inl (fun _ => 0))), (b2, .inr (1, [.int 0, .ref b3, .ref b4, .ref b5, .ref b6, .ref b7])), (b3, .inl (k 0, 16, .inl (fun _ => 0))), (b4, .inl (k 0, 16, .inl (fun _ => 0))), (b5, .inl (k 0, 16, .inl (fun _ => 0))), (b6, .inl (k 0, 16, .inl (fun _ => 0))), (b7, .inl (k 0, 16, .inl (fun _ => 0)))] := hD
  refine lv_aload_n hx hb dX10_copy_34 rfl (lv_at hl 0 rfl) ?_
  refine va_get (D := D) (ci := 8) (v := .ref a8) (C := RX10) (T := TX10) (N := 9) hx hb hts inX10_copy_X10 hown hK hP 0 rfl rfl 3 (by decide) (hts (.fieldLink RX10 25 "RungMoney$Town" "debts" "LRungMoney$Debts;") (by decide +kernel)) (fun _ h9 => h9) rfl dX10_copy_35 ?_
  refine lv_aload_n hx hb dX10_copy_38 rfl (lv_at hl 1 rfl) ?_
  refine va_get (D := D) (ci := 8) (v := .ref b8) (C := RX10) (T := TX10) (N := 9) hx hb hts inX10_copy_X10 hown hK hP 6 rfl rfl 3 (by decide) (hts (.fieldLink RX10 25 "RungMoney$Town" "debts" "LRungMoney$Debts;") (by decide +kernel)) (fun _ h9 => h9) rfl dX10_copy_39 ?_
  refine g_vV (As := [.ref b8]) (rest := []) (wr := [(a0, .inr (8, [.int 0, .ref a1, .ref a2, .ref a8, .ref a11, .int 1, .int 0, .int 0, .int 0])), (a1, .inl (k 1, 6, .inr (.inl (fun _ => 0)))), (a10, .inl (k 0, 6, .inl (fun _ => 0))), (a11, .inl (k 0, 6, .inl (fun _ => 0))), (b0, .inr (8, [.int 0, .ref b1, .ref b2, .ref b8, .ref b11, .int 1, .int 0, .int 0, .int 0])), (b1, .inl (k 1, 6, .inr (.inl (fun _ => 0)))), (b10, .inl (k 0, 6, .inl (fun _ => 0))), (b11, .inl (k 0, 6, .inl (fun _ => 0))), (a2, .inr (1, [.int 0, .ref a3, .ref a4, .ref a5, .ref a6, .ref a7])), (a3, .inl (k 0, 16, .inl (fun _ => 0))), (a4, .inl (k 0, 16, .inl (fun _ => 0))), (a5, .inl (k 0, 16, .inl (fun _ => 0))), (a6, .inl (k 0, 16, .inl (fun _ => 0))), (a7, .inl (k 0, 16, .inl (fun _ => 0))), (b2, .inr (1, [.int 0, .ref b3, .ref b4, .ref b5, .ref b6, .ref b7])), (b3, .inl (k 0, 16, .inl (fun _ => 0))), (b4, .inl (k 0, 16, .inl (fun _ => 0))), (b5, .inl (k 0, 16, .inl (fun _ => 0))), (b6, .inl (k 0, 16, .inl (fun _ => 0))), (b7, .inl (k 0, 16, .inl (fun _ => 0)))]) ⟨hx, hb, hml, hown, hts⟩ (cD_copy l D k a8 a9 a10 b8 b9 b10) (cwV 1 hts gX10_copy_X1_copy rfl rfl rfl (by decide +kernel) ⟨Nat.le_of_ble_eq_true rfl, Nat.le_of_ble_eq_true rfl⟩) g_E0_ok (fun _ _ _ => trivial) hK hP hD hS hA 2 0 rfl rfl rfl [2, 3, 8, 9] [0, 1, 4, 5, 6, 7, 10, 11, 12, 13, 14, 15, 16, 17, 18, 19, 20, 21, 22, 23] rfl rfl (by decide) rfl hl.1 rfl (Nat.le_of_ble_eq_true rfl) dX10_copy_42 ⟨Nat.le_of_ble_eq_true rfl, Nat.le_of_ble_eq_true rfl⟩ (fun u2 H locs hP hD hS => ?_)
  have hP : va_P D vwCl [(a0, .inr (8, [.int 0, .ref a1, .ref a2, .ref a8, .ref a11, .int 1, .int 0, .int 0, .int 0])), (a1, .inl (k 1, 6, .inr (.inl (fun _ => 0)))), (a10, .inl (k 0, 6, .inl (fun _ => 0))), (a11, .inl (k 0, 6, .inl (fun _ => 0))), (b0, .inr (8, [.int 0, .ref b1, .ref b2, .ref b8, .ref b11, .int 1, .int 0, .int 0, .int 0])), (b1, .inl (k 1, 6, .inr (.inl (fun _ => 0)))), (b10, .inl (k 0, 6, .inl (fun _ => 0))), (b11, .inl (k 0, 6, .inl (fun _ => 0))), (a2, .inr (1, [.int 0, .ref a3, .ref a4, .ref a5, .ref a6, .ref a7])), (a3, .inl (k 0, 16, .inl (fun _ => 0))), (a4, .inl (k 0, 16, .inl (fun _ => 0))), (a5, .inl (k 0, 16, .inl (fun _ => 0))), (a6, .inl (k 0, 16, .inl (fun _ => 0))), (a7, .inl (k 0, 16, .inl (fun _ => 0))), (b2, .inr (1, [.int 0, .ref b3, .ref b4, .ref b5, .ref b6, .ref b7])), (b3, .inl (k 0, 16, .inl (fun _ => 0))), (b4, .inl (k 0, 16, .inl (fun _ => 0))), (b5, .inl (k 0, 16, .inl (fun _ => 0))), (b6, .inl (k 0, 16, .inl (fun _ => 0))), (b7, .inl (k 0, 16, .inl (fun _ => 0))), (a8, .inr (0, [.ref a9, .ref a10])), (a9, .inl (k 0, 36, .inl (fun _ => 0))), (b8, .inr (0, [.ref b9, .ref b10])), (b9, .inl (k 0, 36, .inl (fun _ => 0)))] H := hP
  have hD : va_D A [(a0, .inr (8, [.int 0, .ref a1, .ref a2, .ref a8, .ref a11, .int 1, .int 0, .int 0, .int 0])), (a1, .inl (k 1, 6, .inr (.inl (fun _ => 0)))), (a10, .inl (k 0, 6, .inl (fun _ => 0))), (a11, .inl (k 0, 6, .inl (fun _ => 0))), (b0, .inr (8, [.int 0, .ref b1, .ref b2, .ref b8, .ref b11, .int 1, .int 0, .int 0, .int 0])), (b1, .inl (k 1, 6, .inr (.inl (fun _ => 0)))), (b10, .inl (k 0, 6, .inl (fun _ => 0))), (b11, .inl (k 0, 6, .inl (fun _ => 0))), (a2, .inr (1, [.int 0, .ref a3, .ref a4, .ref a5, .ref a6, .ref a7])), (a3, .inl (k 0, 16, .inl (fun _ => 0))), (a4, .inl (k 0, 16, .inl (fun _ => 0))), (a5, .inl (k 0, 16, .inl (fun _ => 0))), (a6, .inl (k 0, 16, .inl (fun _ => 0))), (a7, .inl (k 0, 16, .inl (fun _ => 0))), (b2, .inr (1, [.int 0, .ref b3, .ref b4, .ref b5, .ref b6, .ref b7])), (b3, .inl (k 0, 16, .inl (fun _ => 0))), (b4, .inl (k 0, 16, .inl (fun _ => 0))), (b5, .inl (k 0, 16, .inl (fun _ => 0))), (b6, .inl (k 0, 16, .inl (fun _ => 0))), (b7, .inl (k 0, 16, .inl (fun _ => 0))), (a8, .inr (0, [.ref a9, .ref a10])), (a9, .inl (k 0, 36, .inl (fun _ => 0))), (b8, .inr (0, [.ref b9, .ref b10])), (b9, .inl (k 0, 36, .inl (fun _ => 0)))] := hD
  refine lv_aload_n hx hb dX10_copy_45 rfl (lv_at hl 1 rfl) ?_
  refine va_get (D := D) (ci := 8) (v := .ref b11) (C := RX10) (T := TX10) (N := 9) hx hb hts inX10_copy_X10 hown hK hP 4 rfl rfl 4 (by decide) (hts (.fieldLink RX10 29 "RungMoney$Town" "payments" "[I") (by decide +kernel)) (fun _ h9 => h9) rfl dX10_copy_46 ?_
  refine lv_iconst (v := 0) hx hb dX10_copy_49 (by decide) ?_
  refine lv_aload_n hx hb dX10_copy_50 rfl (lv_at hl 0 rfl) ?_
  refine va_get (D := D) (ci := 8) (v := .ref a11) (C := RX10) (T := TX10) (N := 9) hx hb hts inX10_copy_X10 hown hK hP 0 rfl rfl 4 (by decide) (hts (.fieldLink RX10 29 "RungMoney$Town" "payments" "[I") (by decide +kernel)) (fun _ h9 => h9) rfl dX10_copy_51 ?_
  refine lv_iconst (v := 0) hx hb dX10_copy_54 (by decide) ?_
  refine lv_bipush (v := 6) hx hb dX10_copy_55 (by decide) ?_
  refine va_copyi hx hb (by rw [hml]; exact hl.1.symm) hown (hts (.methodLink RX10 61 arraycopyName) (by decide +kernel)) (hts (.native arraycopyName) (by decide +kernel)) (hts (.static arraycopyName) (by decide +kernel)) (hts (.initialized "java/lang/System") (by decide +kernel)) hK hP hD hS 7 3 0 0 rfl rfl rfl rfl rfl (by decide) (by decide) (by decide) (by decide) (by decide) (fun _ _ => rfl) (Nat.le_of_ble_eq_true rfl) (by decide +kernel) dX10_copy_57 (fun H locs hP hD hS => ?_)
  have hP : va_P D vwCl [(a0, .inr (8, [.int 0, .ref a1, .ref a2, .ref a8, .ref a11, .int 1, .int 0, .int 0, .int 0])), (a1, .inl (k 1, 6, .inr (.inl (fun _ => 0)))), (a10, .inl (k 0, 6, .inl (fun _ => 0))), (a11, .inl (k 0, 6, .inl (fun _ => 0))), (b0, .inr (8, [.int 0, .ref b1, .ref b2, .ref b8, .ref b11, .int 1, .int 0, .int 0, .int 0])), (b1, .inl (k 1, 6, .inr (.inl (fun _ => 0)))), (b10, .inl (k 0, 6, .inl (fun _ => 0))), (b11, .inl (k 0, 6, .inl (fun _ => 0))), (a2, .inr (1, [.int 0, .ref a3, .ref a4, .ref a5, .ref a6, .ref a7])), (a3, .inl (k 0, 16, .inl (fun _ => 0))), (a4, .inl (k 0, 16, .inl (fun _ => 0))), (a5, .inl (k 0, 16, .inl (fun _ => 0))), (a6, .inl (k 0, 16, .inl (fun _ => 0))), (a7, .inl (k 0, 16, .inl (fun _ => 0))), (b2, .inr (1, [.int 0, .ref b3, .ref b4, .ref b5, .ref b6, .ref b7])), (b3, .inl (k 0, 16, .inl (fun _ => 0))), (b4, .inl (k 0, 16, .inl (fun _ => 0))), (b5, .inl (k 0, 16, .inl (fun _ => 0))), (b6, .inl (k 0, 16, .inl (fun _ => 0))), (b7, .inl (k 0, 16, .inl (fun _ => 0))), (a8, .inr (0, [.ref a9, .ref a10])), (a9, .inl (k 0, 36, .inl (fun _ => 0))), (b8, .inr (0, [.ref b9, .ref b10])), (b9, .inl (k 0, 36, .inl (fun _ => 0)))] H := by rw [g_cpy0] at hP; exact hP
  have hD : va_D A [(a0, .inr (8, [.int 0, .ref a1, .ref a2, .ref a8, .ref a11, .int 1, .int 0, .int 0, .int 0])), (a1, .inl (k 1, 6, .inr (.inl (fun _ => 0)))), (a10, .inl (k 0, 6, .inl (fun _ => 0))), (a11, .inl (k 0, 6, .inl (fun _ => 0))), (b0, .inr (8, [.int 0, .ref b1, .ref b2, .ref b8, .ref b11, .int 1, .int 0, .int 0, .int 0])), (b1, .inl (k 1, 6, .inr (.inl (fun _ => 0)))), (b10, .inl (k 0, 6, .inl (fun _ => 0))), (b11, .inl (k 0, 6, .inl (fun _ => 0))), (a2, .inr (1, [.int 0, .ref a3, .ref a4, .ref a5, .ref a6, .ref a7])), (a3, .inl (k 0, 16, .inl (fun _ => 0))), (a4, .inl (k 0, 16, .inl (fun _ => 0))), (a5, .inl (k 0, 16, .inl (fun _ => 0))), (a6, .inl (k 0, 16, .inl (fun _ => 0))), (a7, .inl (k 0, 16, .inl (fun _ => 0))), (b2, .inr (1, [.int 0, .ref b3, .ref b4, .ref b5, .ref b6, .ref b7])), (b3, .inl (k 0, 16, .inl (fun _ => 0))), (b4, .inl (k 0, 16, .inl (fun _ => 0))), (b5, .inl (k 0, 16, .inl (fun _ => 0))), (b6, .inl (k 0, 16, .inl (fun _ => 0))), (b7, .inl (k 0, 16, .inl (fun _ => 0))), (a8, .inr (0, [.ref a9, .ref a10])), (a9, .inl (k 0, 36, .inl (fun _ => 0))), (b8, .inr (0, [.ref b9, .ref b10])), (b9, .inl (k 0, 36, .inl (fun _ => 0)))] := by rw [g_cpy0] at hD; exact hD
  refine lv_aload_n hx hb dX10_copy_60 rfl (lv_at hl 0 rfl) ?_
  refine lv_aload_n hx hb dX10_copy_61 rfl (lv_at hl 1 rfl) ?_
  refine va_get (D := D) (ci := 8) (v := .int 1) (C := RX10) (T := TX10) (N := 9) hx hb hts inX10_copy_X10 hown hK hP 4 rfl rfl 5 (by decide) (hts (.fieldLink RX10 33 "RungMoney$Town" "rot" "I") (by decide +kernel)) (fun _ h9 => h9) rfl dX10_copy_62 ?_
  refine va_put (D := D) (ci := 8) (v := .int 1) (ty := .int) (C := RX10) (T := TX10) (N := 9) hx hb hts inX10_copy_X10 tyX10 tyX10_ok nmX10 hown hK hP hD hS 0 rfl rfl 5 (by decide) (hts (.fieldLink RX10 33 "RungMoney$Town" "rot" "I") (by decide +kernel)) (fun _ h9 => h9) rfl (by decide +kernel) rfl rfl (Nat.le_of_ble_eq_true rfl) dX10_copy_65 (fun H locs hP hD hS => ?_)
  have hP : va_P D vwCl [(a0, .inr (8, [.int 0, .ref a1, .ref a2, .ref a8, .ref a11, .int 1, .int 0, .int 0, .int 0])), (a1, .inl (k 1, 6, .inr (.inl (fun _ => 0)))), (a10, .inl (k 0, 6, .inl (fun _ => 0))), (a11, .inl (k 0, 6, .inl (fun _ => 0))), (b0, .inr (8, [.int 0, .ref b1, .ref b2, .ref b8, .ref b11, .int 1, .int 0, .int 0, .int 0])), (b1, .inl (k 1, 6, .inr (.inl (fun _ => 0)))), (b10, .inl (k 0, 6, .inl (fun _ => 0))), (b11, .inl (k 0, 6, .inl (fun _ => 0))), (a2, .inr (1, [.int 0, .ref a3, .ref a4, .ref a5, .ref a6, .ref a7])), (a3, .inl (k 0, 16, .inl (fun _ => 0))), (a4, .inl (k 0, 16, .inl (fun _ => 0))), (a5, .inl (k 0, 16, .inl (fun _ => 0))), (a6, .inl (k 0, 16, .inl (fun _ => 0))), (a7, .inl (k 0, 16, .inl (fun _ => 0))), (b2, .inr (1, [.int 0, .ref b3, .ref b4, .ref b5, .ref b6, .ref b7])), (b3, .inl (k 0, 16, .inl (fun _ => 0))), (b4, .inl (k 0, 16, .inl (fun _ => 0))), (b5, .inl (k 0, 16, .inl (fun _ => 0))), (b6, .inl (k 0, 16, .inl (fun _ => 0))), (b7, .inl (k 0, 16, .inl (fun _ => 0))), (a8, .inr (0, [.ref a9, .ref a10])), (a9, .inl (k 0, 36, .inl (fun _ => 0))), (b8, .inr (0, [.ref b9, .ref b10])), (b9, .inl (k 0, 36, .inl (fun _ => 0)))] H := hP
  have hD : va_D A [(a0, .inr (8, [.int 0, .ref a1, .ref a2, .ref a8, .ref a11, .int 1, .int 0, .int 0, .int 0])), (a1, .inl (k 1, 6, .inr (.inl (fun _ => 0)))), (a10, .inl (k 0, 6, .inl (fun _ => 0))), (a11, .inl (k 0, 6, .inl (fun _ => 0))), (b0, .inr (8, [.int 0, .ref b1, .ref b2, .ref b8, .ref b11, .int 1, .int 0, .int 0, .int 0])), (b1, .inl (k 1, 6, .inr (.inl (fun _ => 0)))), (b10, .inl (k 0, 6, .inl (fun _ => 0))), (b11, .inl (k 0, 6, .inl (fun _ => 0))), (a2, .inr (1, [.int 0, .ref a3, .ref a4, .ref a5, .ref a6, .ref a7])), (a3, .inl (k 0, 16, .inl (fun _ => 0))), (a4, .inl (k 0, 16, .inl (fun _ => 0))), (a5, .inl (k 0, 16, .inl (fun _ => 0))), (a6, .inl (k 0, 16, .inl (fun _ => 0))), (a7, .inl (k 0, 16, .inl (fun _ => 0))), (b2, .inr (1, [.int 0, .ref b3, .ref b4, .ref b5, .ref b6, .ref b7])), (b3, .inl (k 0, 16, .inl (fun _ => 0))), (b4, .inl (k 0, 16, .inl (fun _ => 0))), (b5, .inl (k 0, 16, .inl (fun _ => 0))), (b6, .inl (k 0, 16, .inl (fun _ => 0))), (b7, .inl (k 0, 16, .inl (fun _ => 0))), (a8, .inr (0, [.ref a9, .ref a10])), (a9, .inl (k 0, 36, .inl (fun _ => 0))), (b8, .inr (0, [.ref b9, .ref b10])), (b9, .inl (k 0, 36, .inl (fun _ => 0)))] := hD
  refine lv_aload_n hx hb dX10_copy_68 rfl (lv_at hl 0 rfl) ?_
  refine lv_aload_n hx hb dX10_copy_69 rfl (lv_at hl 1 rfl) ?_
  refine va_get (D := D) (ci := 8) (v := .int 0) (C := RX10) (T := TX10) (N := 9) hx hb hts inX10_copy_X10 hown hK hP 4 rfl rfl 6 (by decide) (hts (.fieldLink RX10 52 "RungMoney$Town" "winters" "I") (by decide +kernel)) (fun _ h9 => h9) rfl dX10_copy_70 ?_
  refine va_put (D := D) (ci := 8) (v := .int 0) (ty := .int) (C := RX10) (T := TX10) (N := 9) hx hb hts inX10_copy_X10 tyX10 tyX10_ok nmX10 hown hK hP hD hS 0 rfl rfl 6 (by decide) (hts (.fieldLink RX10 52 "RungMoney$Town" "winters" "I") (by decide +kernel)) (fun _ h9 => h9) rfl (by decide +kernel) rfl rfl (Nat.le_of_ble_eq_true rfl) dX10_copy_73 (fun H locs hP hD hS => ?_)
  have hP : va_P D vwCl [(a0, .inr (8, [.int 0, .ref a1, .ref a2, .ref a8, .ref a11, .int 1, .int 0, .int 0, .int 0])), (a1, .inl (k 1, 6, .inr (.inl (fun _ => 0)))), (a10, .inl (k 0, 6, .inl (fun _ => 0))), (a11, .inl (k 0, 6, .inl (fun _ => 0))), (b0, .inr (8, [.int 0, .ref b1, .ref b2, .ref b8, .ref b11, .int 1, .int 0, .int 0, .int 0])), (b1, .inl (k 1, 6, .inr (.inl (fun _ => 0)))), (b10, .inl (k 0, 6, .inl (fun _ => 0))), (b11, .inl (k 0, 6, .inl (fun _ => 0))), (a2, .inr (1, [.int 0, .ref a3, .ref a4, .ref a5, .ref a6, .ref a7])), (a3, .inl (k 0, 16, .inl (fun _ => 0))), (a4, .inl (k 0, 16, .inl (fun _ => 0))), (a5, .inl (k 0, 16, .inl (fun _ => 0))), (a6, .inl (k 0, 16, .inl (fun _ => 0))), (a7, .inl (k 0, 16, .inl (fun _ => 0))), (b2, .inr (1, [.int 0, .ref b3, .ref b4, .ref b5, .ref b6, .ref b7])), (b3, .inl (k 0, 16, .inl (fun _ => 0))), (b4, .inl (k 0, 16, .inl (fun _ => 0))), (b5, .inl (k 0, 16, .inl (fun _ => 0))), (b6, .inl (k 0, 16, .inl (fun _ => 0))), (b7, .inl (k 0, 16, .inl (fun _ => 0))), (a8, .inr (0, [.ref a9, .ref a10])), (a9, .inl (k 0, 36, .inl (fun _ => 0))), (b8, .inr (0, [.ref b9, .ref b10])), (b9, .inl (k 0, 36, .inl (fun _ => 0)))] H := hP
  have hD : va_D A [(a0, .inr (8, [.int 0, .ref a1, .ref a2, .ref a8, .ref a11, .int 1, .int 0, .int 0, .int 0])), (a1, .inl (k 1, 6, .inr (.inl (fun _ => 0)))), (a10, .inl (k 0, 6, .inl (fun _ => 0))), (a11, .inl (k 0, 6, .inl (fun _ => 0))), (b0, .inr (8, [.int 0, .ref b1, .ref b2, .ref b8, .ref b11, .int 1, .int 0, .int 0, .int 0])), (b1, .inl (k 1, 6, .inr (.inl (fun _ => 0)))), (b10, .inl (k 0, 6, .inl (fun _ => 0))), (b11, .inl (k 0, 6, .inl (fun _ => 0))), (a2, .inr (1, [.int 0, .ref a3, .ref a4, .ref a5, .ref a6, .ref a7])), (a3, .inl (k 0, 16, .inl (fun _ => 0))), (a4, .inl (k 0, 16, .inl (fun _ => 0))), (a5, .inl (k 0, 16, .inl (fun _ => 0))), (a6, .inl (k 0, 16, .inl (fun _ => 0))), (a7, .inl (k 0, 16, .inl (fun _ => 0))), (b2, .inr (1, [.int 0, .ref b3, .ref b4, .ref b5, .ref b6, .ref b7])), (b3, .inl (k 0, 16, .inl (fun _ => 0))), (b4, .inl (k 0, 16, .inl (fun _ => 0))), (b5, .inl (k 0, 16, .inl (fun _ => 0))), (b6, .inl (k 0, 16, .inl (fun _ => 0))), (b7, .inl (k 0, 16, .inl (fun _ => 0))), (a8, .inr (0, [.ref a9, .ref a10])), (a9, .inl (k 0, 36, .inl (fun _ => 0))), (b8, .inr (0, [.ref b9, .ref b10])), (b9, .inl (k 0, 36, .inl (fun _ => 0)))] := hD
  refine lv_aload_n hx hb dX10_copy_76 rfl (lv_at hl 0 rfl) ?_
  refine lv_aload_n hx hb dX10_copy_77 rfl (lv_at hl 1 rfl) ?_
  refine va_get (D := D) (ci := 8) (v := .int 0) (C := RX10) (T := TX10) (N := 9) hx hb hts inX10_copy_X10 hown hK hP 4 rfl rfl 7 (by decide) (hts (.fieldLink RX10 55 "RungMoney$Town" "mint" "I") (by decide +kernel)) (fun _ h9 => h9) rfl dX10_copy_78 ?_
  refine va_put (D := D) (ci := 8) (v := .int 0) (ty := .int) (C := RX10) (T := TX10) (N := 9) hx hb hts inX10_copy_X10 tyX10 tyX10_ok nmX10 hown hK hP hD hS 0 rfl rfl 7 (by decide) (hts (.fieldLink RX10 55 "RungMoney$Town" "mint" "I") (by decide +kernel)) (fun _ h9 => h9) rfl (by decide +kernel) rfl rfl (Nat.le_of_ble_eq_true rfl) dX10_copy_81 (fun H locs hP hD hS => ?_)
  have hP : va_P D vwCl [(a0, .inr (8, [.int 0, .ref a1, .ref a2, .ref a8, .ref a11, .int 1, .int 0, .int 0, .int 0])), (a1, .inl (k 1, 6, .inr (.inl (fun _ => 0)))), (a10, .inl (k 0, 6, .inl (fun _ => 0))), (a11, .inl (k 0, 6, .inl (fun _ => 0))), (b0, .inr (8, [.int 0, .ref b1, .ref b2, .ref b8, .ref b11, .int 1, .int 0, .int 0, .int 0])), (b1, .inl (k 1, 6, .inr (.inl (fun _ => 0)))), (b10, .inl (k 0, 6, .inl (fun _ => 0))), (b11, .inl (k 0, 6, .inl (fun _ => 0))), (a2, .inr (1, [.int 0, .ref a3, .ref a4, .ref a5, .ref a6, .ref a7])), (a3, .inl (k 0, 16, .inl (fun _ => 0))), (a4, .inl (k 0, 16, .inl (fun _ => 0))), (a5, .inl (k 0, 16, .inl (fun _ => 0))), (a6, .inl (k 0, 16, .inl (fun _ => 0))), (a7, .inl (k 0, 16, .inl (fun _ => 0))), (b2, .inr (1, [.int 0, .ref b3, .ref b4, .ref b5, .ref b6, .ref b7])), (b3, .inl (k 0, 16, .inl (fun _ => 0))), (b4, .inl (k 0, 16, .inl (fun _ => 0))), (b5, .inl (k 0, 16, .inl (fun _ => 0))), (b6, .inl (k 0, 16, .inl (fun _ => 0))), (b7, .inl (k 0, 16, .inl (fun _ => 0))), (a8, .inr (0, [.ref a9, .ref a10])), (a9, .inl (k 0, 36, .inl (fun _ => 0))), (b8, .inr (0, [.ref b9, .ref b10])), (b9, .inl (k 0, 36, .inl (fun _ => 0)))] H := hP
  have hD : va_D A [(a0, .inr (8, [.int 0, .ref a1, .ref a2, .ref a8, .ref a11, .int 1, .int 0, .int 0, .int 0])), (a1, .inl (k 1, 6, .inr (.inl (fun _ => 0)))), (a10, .inl (k 0, 6, .inl (fun _ => 0))), (a11, .inl (k 0, 6, .inl (fun _ => 0))), (b0, .inr (8, [.int 0, .ref b1, .ref b2, .ref b8, .ref b11, .int 1, .int 0, .int 0, .int 0])), (b1, .inl (k 1, 6, .inr (.inl (fun _ => 0)))), (b10, .inl (k 0, 6, .inl (fun _ => 0))), (b11, .inl (k 0, 6, .inl (fun _ => 0))), (a2, .inr (1, [.int 0, .ref a3, .ref a4, .ref a5, .ref a6, .ref a7])), (a3, .inl (k 0, 16, .inl (fun _ => 0))), (a4, .inl (k 0, 16, .inl (fun _ => 0))), (a5, .inl (k 0, 16, .inl (fun _ => 0))), (a6, .inl (k 0, 16, .inl (fun _ => 0))), (a7, .inl (k 0, 16, .inl (fun _ => 0))), (b2, .inr (1, [.int 0, .ref b3, .ref b4, .ref b5, .ref b6, .ref b7])), (b3, .inl (k 0, 16, .inl (fun _ => 0))), (b4, .inl (k 0, 16, .inl (fun _ => 0))), (b5, .inl (k 0, 16, .inl (fun _ => 0))), (b6, .inl (k 0, 16, .inl (fun _ => 0))), (b7, .inl (k 0, 16, .inl (fun _ => 0))), (a8, .inr (0, [.ref a9, .ref a10])), (a9, .inl (k 0, 36, .inl (fun _ => 0))), (b8, .inr (0, [.ref b9, .ref b10])), (b9, .inl (k 0, 36, .inl (fun _ => 0)))] := hD
  refine lv_aload_n hx hb dX10_copy_84 rfl (lv_at hl 0 rfl) ?_
  refine lv_aload_n hx hb dX10_copy_85 rfl (lv_at hl 1 rfl) ?_
  refine va_get (D := D) (ci := 8) (v := .int 0) (C := RX10) (T := TX10) (N := 9) hx hb hts inX10_copy_X10 hown hK hP 4 rfl rfl 8 (by decide) (hts (.fieldLink RX10 58 "RungMoney$Town" "cuts" "I") (by decide +kernel)) (fun _ h9 => h9) rfl dX10_copy_86 ?_
  refine va_put (D := D) (ci := 8) (v := .int 0) (ty := .int) (C := RX10) (T := TX10) (N := 9) hx hb hts inX10_copy_X10 tyX10 tyX10_ok nmX10 hown hK hP hD hS 0 rfl rfl 8 (by decide) (hts (.fieldLink RX10 58 "RungMoney$Town" "cuts" "I") (by decide +kernel)) (fun _ h9 => h9) rfl (by decide +kernel) rfl rfl (Nat.le_of_ble_eq_true rfl) dX10_copy_89 (fun H locs hP hD hS => ?_)
  have hP : va_P D vwCl [(a0, .inr (8, [.int 0, .ref a1, .ref a2, .ref a8, .ref a11, .int 1, .int 0, .int 0, .int 0])), (a1, .inl (k 1, 6, .inr (.inl (fun _ => 0)))), (a10, .inl (k 0, 6, .inl (fun _ => 0))), (a11, .inl (k 0, 6, .inl (fun _ => 0))), (b0, .inr (8, [.int 0, .ref b1, .ref b2, .ref b8, .ref b11, .int 1, .int 0, .int 0, .int 0])), (b1, .inl (k 1, 6, .inr (.inl (fun _ => 0)))), (b10, .inl (k 0, 6, .inl (fun _ => 0))), (b11, .inl (k 0, 6, .inl (fun _ => 0))), (a2, .inr (1, [.int 0, .ref a3, .ref a4, .ref a5, .ref a6, .ref a7])), (a3, .inl (k 0, 16, .inl (fun _ => 0))), (a4, .inl (k 0, 16, .inl (fun _ => 0))), (a5, .inl (k 0, 16, .inl (fun _ => 0))), (a6, .inl (k 0, 16, .inl (fun _ => 0))), (a7, .inl (k 0, 16, .inl (fun _ => 0))), (b2, .inr (1, [.int 0, .ref b3, .ref b4, .ref b5, .ref b6, .ref b7])), (b3, .inl (k 0, 16, .inl (fun _ => 0))), (b4, .inl (k 0, 16, .inl (fun _ => 0))), (b5, .inl (k 0, 16, .inl (fun _ => 0))), (b6, .inl (k 0, 16, .inl (fun _ => 0))), (b7, .inl (k 0, 16, .inl (fun _ => 0))), (a8, .inr (0, [.ref a9, .ref a10])), (a9, .inl (k 0, 36, .inl (fun _ => 0))), (b8, .inr (0, [.ref b9, .ref b10])), (b9, .inl (k 0, 36, .inl (fun _ => 0)))] H := hP
  have hD : va_D A [(a0, .inr (8, [.int 0, .ref a1, .ref a2, .ref a8, .ref a11, .int 1, .int 0, .int 0, .int 0])), (a1, .inl (k 1, 6, .inr (.inl (fun _ => 0)))), (a10, .inl (k 0, 6, .inl (fun _ => 0))), (a11, .inl (k 0, 6, .inl (fun _ => 0))), (b0, .inr (8, [.int 0, .ref b1, .ref b2, .ref b8, .ref b11, .int 1, .int 0, .int 0, .int 0])), (b1, .inl (k 1, 6, .inr (.inl (fun _ => 0)))), (b10, .inl (k 0, 6, .inl (fun _ => 0))), (b11, .inl (k 0, 6, .inl (fun _ => 0))), (a2, .inr (1, [.int 0, .ref a3, .ref a4, .ref a5, .ref a6, .ref a7])), (a3, .inl (k 0, 16, .inl (fun _ => 0))), (a4, .inl (k 0, 16, .inl (fun _ => 0))), (a5, .inl (k 0, 16, .inl (fun _ => 0))), (a6, .inl (k 0, 16, .inl (fun _ => 0))), (a7, .inl (k 0, 16, .inl (fun _ => 0))), (b2, .inr (1, [.int 0, .ref b3, .ref b4, .ref b5, .ref b6, .ref b7])), (b3, .inl (k 0, 16, .inl (fun _ => 0))), (b4, .inl (k 0, 16, .inl (fun _ => 0))), (b5, .inl (k 0, 16, .inl (fun _ => 0))), (b6, .inl (k 0, 16, .inl (fun _ => 0))), (b7, .inl (k 0, 16, .inl (fun _ => 0))), (a8, .inr (0, [.ref a9, .ref a10])), (a9, .inl (k 0, 36, .inl (fun _ => 0))), (b8, .inr (0, [.ref b9, .ref b10])), (b9, .inl (k 0, 36, .inl (fun _ => 0)))] := hD
  have hP := hP.sub (ws' := [(a0, .inr (8, [.int 0, .ref a1, .ref a2, .ref a8, .ref a11, .int 1, .int 0, .int 0, .int 0])), (a1, .inl (k 1, 6, .inr (.inl (fun _ => 0)))), (a2, .inr (1, [.int 0, .ref a3, .ref a4, .ref a5, .ref a6, .ref a7])), (a3, .inl (k 0, 16, .inl (fun _ => 0))), (a4, .inl (k 0, 16, .inl (fun _ => 0))), (a5, .inl (k 0, 16, .inl (fun _ => 0))), (a6, .inl (k 0, 16, .inl (fun _ => 0))), (a7, .inl (k 0, 16, .inl (fun _ => 0))), (a8, .inr (0, [.ref a9, .ref a10])), (a9, .inl (k 0, 36, .inl (fun _ => 0))), (a10, .inl (k 0, 6, .inl (fun _ => 0))), (a11, .inl (k 0, 6, .inl (fun _ => 0))), (b0, .inr (8, [.int 0, .ref b1, .ref b2, .ref b8, .ref b11, .int 1, .int 0, .int 0, .int 0])), (b1, .inl (k 1, 6, .inr (.inl (fun _ => 0)))), (b2, .inr (1, [.int 0, .ref b3, .ref b4, .ref b5, .ref b6, .ref b7])), (b3, .inl (k 0, 16, .inl (fun _ => 0))), (b4, .inl (k 0, 16, .inl (fun _ => 0))), (b5, .inl (k 0, 16, .inl (fun _ => 0))), (b6, .inl (k 0, 16, .inl (fun _ => 0))), (b7, .inl (k 0, 16, .inl (fun _ => 0))), (b8, .inr (0, [.ref b9, .ref b10])), (b9, .inl (k 0, 36, .inl (fun _ => 0))), (b10, .inl (k 0, 6, .inl (fun _ => 0))), (b11, .inl (k 0, 6, .inl (fun _ => 0)))]) [0, 1, 8, 9, 10, 11, 12, 13, 20, 21, 2, 3, 4, 5, 14, 15, 16, 17, 18, 19, 22, 23, 6, 7] rfl
  have hD := hD.sub (ws' := [(a0, .inr (8, [.int 0, .ref a1, .ref a2, .ref a8, .ref a11, .int 1, .int 0, .int 0, .int 0])), (a1, .inl (k 1, 6, .inr (.inl (fun _ => 0)))), (a2, .inr (1, [.int 0, .ref a3, .ref a4, .ref a5, .ref a6, .ref a7])), (a3, .inl (k 0, 16, .inl (fun _ => 0))), (a4, .inl (k 0, 16, .inl (fun _ => 0))), (a5, .inl (k 0, 16, .inl (fun _ => 0))), (a6, .inl (k 0, 16, .inl (fun _ => 0))), (a7, .inl (k 0, 16, .inl (fun _ => 0))), (a8, .inr (0, [.ref a9, .ref a10])), (a9, .inl (k 0, 36, .inl (fun _ => 0))), (a10, .inl (k 0, 6, .inl (fun _ => 0))), (a11, .inl (k 0, 6, .inl (fun _ => 0))), (b0, .inr (8, [.int 0, .ref b1, .ref b2, .ref b8, .ref b11, .int 1, .int 0, .int 0, .int 0])), (b1, .inl (k 1, 6, .inr (.inl (fun _ => 0)))), (b2, .inr (1, [.int 0, .ref b3, .ref b4, .ref b5, .ref b6, .ref b7])), (b3, .inl (k 0, 16, .inl (fun _ => 0))), (b4, .inl (k 0, 16, .inl (fun _ => 0))), (b5, .inl (k 0, 16, .inl (fun _ => 0))), (b6, .inl (k 0, 16, .inl (fun _ => 0))), (b7, .inl (k 0, 16, .inl (fun _ => 0))), (b8, .inr (0, [.ref b9, .ref b10])), (b9, .inl (k 0, 36, .inl (fun _ => 0))), (b10, .inl (k 0, 6, .inl (fun _ => 0))), (b11, .inl (k 0, 6, .inl (fun _ => 0)))]) [0, 1, 8, 9, 10, 11, 12, 13, 20, 21, 2, 3, 4, 5, 14, 15, 16, 17, 18, 19, 22, 23, 6, 7] (by decide) rfl
  exact g_vret hx hb hr hlocks hK (fun _ => 0) hP hD hS dX10_copy_92 ⟨Nat.le_of_ble_eq_true rfl, Nat.le_of_ble_eq_true rfl⟩
