theorem dX2_find_0 : decode cX2_find 0 = .ok (.iconst 0, 1) := by decide +kernel
theorem dX2_find_1 : decode cX2_find 1 = .ok (.istore_n 2, 1) := by decide +kernel
theorem dX2_find_2 : decode cX2_find 2 = .ok (.iload_n 2, 1) := by decide +kernel
theorem dX2_find_3 : decode cX2_find 3 = .ok (.getstatic 125, 3) := by decide +kernel
theorem dX2_find_6 : decode cX2_find 6 = .ok (.arraylength, 1) := by decide +kernel
theorem dX2_find_7 : decode cX2_find 7 = .ok (.if_icmp .ge 28, 3) := by decide +kernel
theorem dX2_find_10 : decode cX2_find 10 = .ok (.getstatic 125, 3) := by decide +kernel
theorem dX2_find_13 : decode cX2_find 13 = .ok (.iload_n 2, 1) := by decide +kernel
theorem dX2_find_14 : decode cX2_find 14 = .ok (.aaload, 1) := by decide +kernel
theorem dX2_find_15 : decode cX2_find 15 = .ok (.getfield 111, 3) := by decide +kernel
theorem dX2_find_18 : decode cX2_find 18 = .ok (.lload_n 0, 1) := by decide +kernel
theorem dX2_find_19 : decode cX2_find 19 = .ok (.lcmp, 1) := by decide +kernel
theorem dX2_find_20 : decode cX2_find 20 = .ok (.ifCond .ne 9, 3) := by decide +kernel
theorem dX2_find_23 : decode cX2_find 23 = .ok (.getstatic 125, 3) := by decide +kernel
theorem dX2_find_26 : decode cX2_find 26 = .ok (.iload_n 2, 1) := by decide +kernel
theorem dX2_find_27 : decode cX2_find 27 = .ok (.aaload, 1) := by decide +kernel
theorem dX2_find_28 : decode cX2_find 28 = .ok (.areturn, 1) := by decide +kernel
theorem dX2_isMeasure_0 : decode cX2_isMeasure 0 = .ok (.aload_n 0, 1) := by decide +kernel
theorem dX2_isMeasure_1 : decode cX2_isMeasure 1 = .ok (.getstatic 66, 3) := by decide +kernel
theorem dX2_isMeasure_4 : decode cX2_isMeasure 4 = .ok (.if_acmp .eq 24, 3) := by decide +kernel
theorem dX2_isMeasure_7 : decode cX2_isMeasure 7 = .ok (.aload_n 0, 1) := by decide +kernel
theorem dX2_isMeasure_8 : decode cX2_isMeasure 8 = .ok (.getstatic 69, 3) := by decide +kernel
theorem dX2_isMeasure_11 : decode cX2_isMeasure 11 = .ok (.if_acmp .eq 17, 3) := by decide +kernel
theorem dX2_isMeasure_14 : decode cX2_isMeasure 14 = .ok (.aload_n 0, 1) := by decide +kernel
theorem dX2_isMeasure_15 : decode cX2_isMeasure 15 = .ok (.getstatic 72, 3) := by decide +kernel
theorem dX2_isMeasure_18 : decode cX2_isMeasure 18 = .ok (.if_acmp .eq 10, 3) := by decide +kernel
theorem dX2_isMeasure_21 : decode cX2_isMeasure 21 = .ok (.aload_n 0, 1) := by decide +kernel
theorem dX2_isMeasure_22 : decode cX2_isMeasure 22 = .ok (.getstatic 75, 3) := by decide +kernel
theorem dX2_isMeasure_25 : decode cX2_isMeasure 25 = .ok (.if_acmp .ne 7, 3) := by decide +kernel
theorem dX2_isMeasure_32 : decode cX2_isMeasure 32 = .ok (.iconst 0, 1) := by decide +kernel
theorem dX2_isMeasure_33 : decode cX2_isMeasure 33 = .ok (.ireturn, 1) := by decide +kernel
theorem dX2_isPlain_0 : decode cX2_isPlain 0 = .ok (.aload_n 0, 1) := by decide +kernel
theorem dX2_isPlain_1 : decode cX2_isPlain 1 = .ok (.getstatic 54, 3) := by decide +kernel
theorem dX2_isPlain_4 : decode cX2_isPlain 4 = .ok (.if_acmp .eq 17, 3) := by decide +kernel
theorem dX2_isPlain_7 : decode cX2_isPlain 7 = .ok (.aload_n 0, 1) := by decide +kernel
theorem dX2_isPlain_8 : decode cX2_isPlain 8 = .ok (.getstatic 57, 3) := by decide +kernel
theorem dX2_isPlain_11 : decode cX2_isPlain 11 = .ok (.if_acmp .eq 10, 3) := by decide +kernel
theorem dX2_isPlain_14 : decode cX2_isPlain 14 = .ok (.aload_n 0, 1) := by decide +kernel
theorem dX2_isPlain_15 : decode cX2_isPlain 15 = .ok (.getstatic 60, 3) := by decide +kernel
theorem dX2_isPlain_18 : decode cX2_isPlain 18 = .ok (.if_acmp .ne 7, 3) := by decide +kernel
theorem dX2_isPlain_25 : decode cX2_isPlain 25 = .ok (.iconst 0, 1) := by decide +kernel
theorem dX2_isPlain_26 : decode cX2_isPlain 26 = .ok (.ireturn, 1) := by decide +kernel
theorem dX7_fail_0 : decode cX7_fail 0 = .ok (.aload_n 0, 1) := by decide +kernel
theorem dX7_fail_1 : decode cX7_fail 1 = .ok (.iload_n 1, 1) := by decide +kernel
theorem dX7_fail_2 : decode cX7_fail 2 = .ok (.putfield 22, 3) := by decide +kernel
theorem dX7_fail_5 : decode cX7_fail 5 = .ok (.aload_n 0, 1) := by decide +kernel
theorem dX7_fail_6 : decode cX7_fail 6 = .ok (.aload_n 0, 1) := by decide +kernel
theorem dX7_fail_7 : decode cX7_fail 7 = .ok (.getfield 44, 3) := by decide +kernel
theorem dX7_fail_10 : decode cX7_fail 10 = .ok (.putfield 25, 3) := by decide +kernel
theorem dX7_fail_13 : decode cX7_fail 13 = .ok (.iconst 0, 1) := by decide +kernel
theorem dX7_fail_14 : decode cX7_fail 14 = .ok (.ireturn, 1) := by decide +kernel
set_option maxRecDepth 20000 in
theorem ggX7_key_X2_find : GoodIn wsX7_key wsX2_find := goodIn_r _ [5, 6, 7, 8] (by decide +kernel) (by decide +kernel)
set_option maxRecDepth 20000 in
theorem gX7_key_X2_find : GoodIn wsX7_key (va_wsS RX7 65 yX2_find wsX2_find) := goodIn_app (goodIn_of _ (by decide +kernel)) ggX7_key_X2_find
theorem dX7_key_0 : decode cX7_key 0 = .ok (.aload_n 0, 1) := by decide +kernel
theorem dX7_key_1 : decode cX7_key 1 = .ok (.getfield 47, 3) := by decide +kernel
theorem dX7_key_4 : decode cX7_key 4 = .ok (.invokestatic 65, 3) := by decide +kernel
theorem dX7_key_7 : decode cX7_key 7 = .ok (.areturn, 1) := by decide +kernel
theorem dX7_isSign_0 : decode cX7_isSign 0 = .ok (.aload_n 0, 1) := by decide +kernel
theorem dX7_isSign_1 : decode cX7_isSign 1 = .ok (.getfield 57, 3) := by decide +kernel
theorem dX7_isSign_4 : decode cX7_isSign 4 = .ok (.iconst 3, 1) := by decide +kernel
theorem dX7_isSign_5 : decode cX7_isSign 5 = .ok (.if_icmp .ne 15, 3) := by decide +kernel
theorem dX7_isSign_20 : decode cX7_isSign 20 = .ok (.iconst 0, 1) := by decide +kernel
theorem dX7_isSign_21 : decode cX7_isSign 21 = .ok (.ireturn, 1) := by decide +kernel
set_option maxRecDepth 20000 in
theorem ggX8_read_X8_forget : GoodIn wsX8_read wsX8_forget := goodIn_r _ [6, 7, 8, 143, 144, 145, 146, 147, 148] (by decide +kernel) (by decide +kernel)
set_option maxRecDepth 20000 in
theorem gX8_read_X8_forget : GoodIn wsX8_read (wsV RX8 36 RX8 yX8_forget wsX8_forget) := goodIn_app (goodIn_of _ (by decide +kernel)) ggX8_read_X8_forget
set_option maxRecDepth 20000 in
theorem ggX8_read_X7_open : GoodIn wsX8_read wsX7_open := goodIn_r _ [13, 14, 15, 16, 17, 18, 19, 20, 12, 21, 22, 23, 24, 25, 26, 27, 28, 29, 30, 31, 32, 33, 34, 35, 36, 37, 132, 133, 134, 135, 136, 137, 138, 139, 140, 141, 142, 149, 150] (by decide +kernel) (by decide +kernel)
set_option maxRecDepth 20000 in
theorem gX8_read_X7_open : GoodIn wsX8_read (wsV RX8 39 RX7 yX7_open wsX7_open) := goodIn_app (goodIn_of _ (by decide +kernel)) ggX8_read_X7_open
set_option maxRecDepth 20000 in
theorem ggX8_read_X8_readCond : GoodIn wsX8_read wsX8_readCond := goodIn_r _ [41, 42, 43, 44, 45, 5, 46, 47, 48, 12, 49, 26, 50, 51, 52, 53, 54, 55, 56, 57, 19, 20, 21, 15, 22, 23, 24, 25, 27, 28, 14, 29, 30, 31, 32, 33, 34, 35, 36, 37, 58, 59, 60, 61, 7, 62, 63, 64, 65, 66, 67, 68, 69, 70, 71, 72, 8, 73, 74, 75, 76, 77, 78, 79, 80, 81, 82, 83, 84, 85, 86, 87, 88, 89, 90, 91, 92, 93, 94, 95, 16, 17, 38, 39, 40, 96, 97, 98, 99, 100, 101, 18, 102, 103, 104, 105, 106, 107, 108, 109, 110, 111, 112, 113, 114, 115, 116, 117, 118, 119, 120, 121, 122, 123, 124, 125, 126, 127, 128, 129, 130, 131, 132, 133, 134, 135, 136, 137, 138, 139, 140, 141, 142, 149, 150, 143, 144, 145, 146, 147, 148, 151, 152, 153, 154, 155, 156, 157, 158, 159] (by decide +kernel) (by decide +kernel)
set_option maxRecDepth 20000 in
theorem gX8_read_X8_readCond : GoodIn wsX8_read (wsV RX8 45 RX8 yX8_readCond wsX8_readCond) := goodIn_app (goodIn_of _ (by decide +kernel)) ggX8_read_X8_readCond
theorem dX8_read_0 : decode cX8_read 0 = .ok (.aload_n 0, 1) := by decide +kernel
theorem dX8_read_1 : decode cX8_read 1 = .ok (.invokevirtual 36, 3) := by decide +kernel
theorem dX8_read_4 : decode cX8_read 4 = .ok (.aload_n 1, 1) := by decide +kernel
theorem dX8_read_5 : decode cX8_read 5 = .ok (.sipush 200, 3) := by decide +kernel
theorem dX8_read_8 : decode cX8_read 8 = .ok (.invokevirtual 39, 3) := by decide +kernel
theorem dX8_read_11 : decode cX8_read 11 = .ok (.aload_n 0, 1) := by decide +kernel
theorem dX8_read_12 : decode cX8_read 12 = .ok (.aload_n 1, 1) := by decide +kernel
theorem dX8_read_13 : decode cX8_read 13 = .ok (.aload_n 2, 1) := by decide +kernel
theorem dX8_read_14 : decode cX8_read 14 = .ok (.iconst 1, 1) := by decide +kernel
theorem dX8_read_15 : decode cX8_read 15 = .ok (.invokevirtual 45, 3) := by decide +kernel
theorem dX8_read_18 : decode cX8_read 18 = .ok (.ifCond .ne 5, 3) := by decide +kernel
theorem dX8_read_21 : decode cX8_read 21 = .ok (.iconst 0, 1) := by decide +kernel
theorem dX8_read_22 : decode cX8_read 22 = .ok (.ireturn, 1) := by decide +kernel
set_option maxRecDepth 20000 in
theorem ggX8_readCond_X8_readAll : GoodIn wsX8_readCond wsX8_readAll := goodIn_r _ [48, 49, 50, 51, 52, 5, 6, 7, 8, 9, 10, 11, 12, 13, 14, 15, 16, 17, 18, 19, 20, 21, 22, 23, 24, 25, 26, 27, 28, 29, 30, 31, 32, 33, 34, 35, 36, 37, 38, 39, 40, 41, 42, 43, 44, 45, 46, 47, 0, 1, 2, 3, 4, 53, 54, 55, 56, 57, 58, 59, 60, 61, 62, 63, 64, 65, 66, 67, 68, 69, 70, 71, 72, 73, 74, 75, 76, 77, 78, 79, 80, 81, 82, 83, 84, 85, 86, 87, 88, 89, 90, 91, 92, 93, 94, 95, 96, 97, 98, 99, 100, 101, 102, 103, 104, 105, 106, 107, 108, 109, 110, 111, 112, 113, 114, 115, 116, 117, 118, 119, 120, 121, 122, 123, 124, 125, 126, 127, 128, 129, 130, 131, 132, 133, 134, 135, 136, 137, 138, 139, 140, 141, 142, 143, 144, 145, 146, 147, 148, 149] (by decide +kernel) (by decide +kernel)
set_option maxRecDepth 20000 in
theorem gX8_readCond_X8_readAll : GoodIn wsX8_readCond (wsV RX8 56 RX8 yX8_readAll wsX8_readAll) := goodIn_app (goodIn_of _ (by decide +kernel)) ggX8_readCond_X8_readAll
theorem dX8_readCond_0 : decode cX8_readCond 0 = .ok (.aload_n 0, 1) := by decide +kernel
theorem dX8_readCond_1 : decode cX8_readCond 1 = .ok (.aload_n 1, 1) := by decide +kernel
theorem dX8_readCond_2 : decode cX8_readCond 2 = .ok (.aload_n 2, 1) := by decide +kernel
theorem dX8_readCond_3 : decode cX8_readCond 3 = .ok (.iload_n 3, 1) := by decide +kernel
theorem dX8_readCond_4 : decode cX8_readCond 4 = .ok (.invokevirtual 56, 3) := by decide +kernel
theorem dX8_readCond_7 : decode cX8_readCond 7 = .ok (.ifCond .ne 5, 3) := by decide +kernel
theorem dX8_readCond_10 : decode cX8_readCond 10 = .ok (.iconst 0, 1) := by decide +kernel
theorem dX8_readCond_11 : decode cX8_readCond 11 = .ok (.ireturn, 1) := by decide +kernel
set_option maxRecDepth 20000 in
theorem ggX8_readAll_X8_readOne : GoodIn wsX8_readAll wsX8_readOne := goodIn_r _ [53, 54, 55, 56, 6, 7, 8, 9, 10, 11, 12, 13, 14, 15, 16, 17, 18, 57, 58, 59, 60, 31, 29, 61, 62, 63, 64, 65, 66, 67, 68, 69, 70, 71, 72, 73, 74, 75, 76, 77, 78, 79, 80, 27, 81, 19, 20, 21, 22, 23, 24, 25, 26, 28, 30, 32, 33, 34, 35, 36, 37, 38, 39, 82, 83, 84, 5, 85, 86, 87, 88, 89, 90, 91, 2, 3, 4, 40, 41, 42, 43, 44, 45, 46, 47, 92, 93, 94, 95, 96, 97, 98, 99, 100, 101, 102, 103, 104, 105, 106, 107, 108, 109, 110, 111, 112, 113, 114, 115, 116, 117, 118, 119, 120, 121, 0, 1, 48, 49, 50, 51, 52, 122, 123, 124, 125, 126, 127, 128, 129, 130, 131, 132, 133, 134, 135, 136, 137, 138, 139, 140, 141, 142, 143, 144, 145, 146, 147, 148, 149] (by decide +kernel) (by decide +kernel)
set_option maxRecDepth 20000 in
theorem gX8_readAll_X8_readOne : GoodIn wsX8_readAll (wsV RX8 73 RX8 yX8_readOne wsX8_readOne) := goodIn_app (goodIn_of _ (by decide +kernel)) ggX8_readAll_X8_readOne
theorem dX8_readAll_0 : decode cX8_readAll 0 = .ok (.aload_n 0, 1) := by decide +kernel
theorem dX8_readAll_1 : decode cX8_readAll 1 = .ok (.aload_n 1, 1) := by decide +kernel
theorem dX8_readAll_2 : decode cX8_readAll 2 = .ok (.aload_n 2, 1) := by decide +kernel
theorem dX8_readAll_3 : decode cX8_readAll 3 = .ok (.iload_n 3, 1) := by decide +kernel
theorem dX8_readAll_4 : decode cX8_readAll 4 = .ok (.invokevirtual 73, 3) := by decide +kernel
theorem dX8_readAll_7 : decode cX8_readAll 7 = .ok (.ifCond .ne 5, 3) := by decide +kernel
theorem dX8_readAll_10 : decode cX8_readAll 10 = .ok (.iconst 0, 1) := by decide +kernel
theorem dX8_readAll_11 : decode cX8_readAll 11 = .ok (.ireturn, 1) := by decide +kernel
set_option maxRecDepth 20000 in
theorem ggX8_readOne_X7_key : GoodIn wsX8_readOne wsX7_key := goodIn_r _ [8, 9, 10, 11, 12, 13, 14, 15, 16, 122, 123, 124, 125, 126, 127, 128, 129, 130, 131, 132] (by decide +kernel) (by decide +kernel)
set_option maxRecDepth 20000 in
theorem gX8_readOne_X7_key : GoodIn wsX8_readOne (wsV RX8 59 RX7 yX7_key wsX7_key) := goodIn_app (goodIn_of _ (by decide +kernel)) ggX8_readOne_X7_key
set_option maxRecDepth 20000 in
theorem ggX8_readOne_X7_isSign : GoodIn wsX8_readOne wsX7_isSign := goodIn_r _ [20, 21, 22, 122, 123, 124, 125, 126, 127, 128, 129, 130, 131, 132] (by decide +kernel) (by decide +kernel)
set_option maxRecDepth 20000 in
theorem gX8_readOne_X7_isSign : GoodIn wsX8_readOne (wsV RX8 79 RX7 yX7_isSign wsX7_isSign) := goodIn_app (goodIn_of _ (by decide +kernel)) ggX8_readOne_X7_isSign
set_option maxRecDepth 20000 in
theorem ggX8_readOne_X2_isPlain : GoodIn wsX8_readOne wsX2_isPlain := goodIn_r _ [26, 27, 28, 29] (by decide +kernel) (by decide +kernel)
set_option maxRecDepth 20000 in
theorem gX8_readOne_X2_isPlain : GoodIn wsX8_readOne (wsV RX8 88 RX2 yX2_isPlain wsX2_isPlain) := goodIn_app (goodIn_of _ (by decide +kernel)) ggX8_readOne_X2_isPlain
set_option maxRecDepth 20000 in
theorem ggX8_readOne_X2_isMeasure : GoodIn wsX8_readOne wsX2_isMeasure := goodIn_r _ [33, 34, 35, 36, 37] (by decide +kernel) (by decide +kernel)
set_option maxRecDepth 20000 in
theorem gX8_readOne_X2_isMeasure : GoodIn wsX8_readOne (wsV RX8 92 RX2 yX2_isMeasure wsX2_isMeasure) := goodIn_app (goodIn_of _ (by decide +kernel)) ggX8_readOne_X2_isMeasure
set_option maxRecDepth 20000 in
theorem ggX8_readOne_X7_fail : GoodIn wsX8_readOne wsX7_fail := goodIn_r _ [41, 42, 43, 44, 122, 123, 124, 125, 126, 127, 128, 129, 130, 131, 132] (by decide +kernel) (by decide +kernel)
set_option maxRecDepth 20000 in
theorem gX8_readOne_X7_fail : GoodIn wsX8_readOne (wsV RX8 52 RX7 yX7_fail wsX7_fail) := goodIn_app (goodIn_of _ (by decide +kernel)) ggX8_readOne_X7_fail
theorem dX8_readOne_0 : decode cX8_readOne 0 = .ok (.aload_n 1, 1) := by decide +kernel
theorem dX8_readOne_1 : decode cX8_readOne 1 = .ok (.invokevirtual 59, 3) := by decide +kernel
theorem dX8_readOne_4 : decode cX8_readOne 4 = .ok (.astore 4, 2) := by decide +kernel
theorem dX8_readOne_6 : decode cX8_readOne 6 = .ok (.aload_n 1, 1) := by decide +kernel
theorem dX8_readOne_7 : decode cX8_readOne 7 = .ok (.bipush 40, 2) := by decide +kernel
theorem dX8_readOne_9 : decode cX8_readOne 9 = .ok (.invokevirtual 79, 3) := by decide +kernel
theorem dX8_readOne_12 : decode cX8_readOne 12 = .ok (.istore 5, 2) := by decide +kernel
theorem dX8_readOne_14 : decode cX8_readOne 14 = .ok (.iload 5, 2) := by decide +kernel
theorem dX8_readOne_16 : decode cX8_readOne 16 = .ok (.ifCond .ne 41, 3) := by decide +kernel
theorem dX8_readOne_19 : decode cX8_readOne 19 = .ok (.aload 4, 2) := by decide +kernel
theorem dX8_readOne_21 : decode cX8_readOne 21 = .ok (.getstatic 82, 3) := by decide +kernel
theorem dX8_readOne_24 : decode cX8_readOne 24 = .ok (.if_acmp .eq 33, 3) := by decide +kernel
theorem dX8_readOne_27 : decode cX8_readOne 27 = .ok (.aload 4, 2) := by decide +kernel
theorem dX8_readOne_29 : decode cX8_readOne 29 = .ok (.getstatic 85, 3) := by decide +kernel
theorem dX8_readOne_32 : decode cX8_readOne 32 = .ok (.if_acmp .eq 25, 3) := by decide +kernel
theorem dX8_readOne_35 : decode cX8_readOne 35 = .ok (.aload 4, 2) := by decide +kernel
theorem dX8_readOne_37 : decode cX8_readOne 37 = .ok (.invokevirtual 88, 3) := by decide +kernel
theorem dX8_readOne_40 : decode cX8_readOne 40 = .ok (.ifCond .ne 17, 3) := by decide +kernel
theorem dX8_readOne_43 : decode cX8_readOne 43 = .ok (.aload 4, 2) := by decide +kernel
theorem dX8_readOne_45 : decode cX8_readOne 45 = .ok (.invokevirtual 92, 3) := by decide +kernel
theorem dX8_readOne_48 : decode cX8_readOne 48 = .ok (.ifCond .ne 9, 3) := by decide +kernel
theorem dX8_readOne_51 : decode cX8_readOne 51 = .ok (.aload_n 1, 1) := by decide +kernel
theorem dX8_readOne_52 : decode cX8_readOne 52 = .ok (.iconst 1, 1) := by decide +kernel
theorem dX8_readOne_53 : decode cX8_readOne 53 = .ok (.invokevirtual 52, 3) := by decide +kernel
theorem dX8_readOne_56 : decode cX8_readOne 56 = .ok (.ireturn, 1) := by decide +kernel
set_option maxRecDepth 20000 in
theorem ggX12_sentence_X8_read : GoodIn wsX12_sentence wsX8_read := goodIn_r _ [15, 16, 17, 18, 19, 14, 20, 21, 22, 23, 24, 25, 26, 27, 28, 29, 30, 31, 32, 33, 34, 35, 36, 37, 38, 39, 40, 41, 42, 43, 44, 45, 46, 47, 48, 49, 50, 51, 52, 53, 54, 55, 56, 57, 58, 59, 60, 61, 62, 63, 64, 65, 66, 67, 68, 69, 70, 71, 72, 73, 74, 75, 76, 77, 78, 79, 80, 81, 82, 83, 84, 85, 86, 87, 88, 89, 90, 91, 92, 93, 94, 95, 96, 97, 98, 99, 100, 101, 102, 103, 104, 105, 106, 107, 108, 109, 110, 111, 112, 113, 114, 115, 116, 117, 118, 119, 120, 121, 122, 123, 124, 125, 126, 127, 128, 129, 130, 131, 132, 133, 134, 135, 136, 137, 138, 139, 140, 141, 142, 143, 144, 145, 170, 171, 172, 173, 174, 175, 176, 177, 178, 179, 180, 181, 182, 183, 184, 185, 186, 168, 169, 187, 188, 189, 190, 191, 192, 193, 194, 195] (by decide +kernel) (by decide +kernel)
set_option maxRecDepth 20000 in
theorem gX12_sentence_X8_read : GoodIn wsX12_sentence (wsV RX12 339 RX8 yX8_read wsX8_read) := goodIn_app (goodIn_of _ (by decide +kernel)) ggX12_sentence_X8_read
theorem dX12_sentence_0 : decode cX12_sentence 0 = .ok (.aload_n 0, 1) := by decide +kernel
theorem dX12_sentence_1 : decode cX12_sentence 1 = .ok (.getfield 51, 3) := by decide +kernel
theorem dX12_sentence_4 : decode cX12_sentence 4 = .ok (.aload_n 0, 1) := by decide +kernel
theorem dX12_sentence_5 : decode cX12_sentence 5 = .ok (.getfield 21, 3) := by decide +kernel
theorem dX12_sentence_8 : decode cX12_sentence 8 = .ok (.aload_n 0, 1) := by decide +kernel
theorem dX12_sentence_9 : decode cX12_sentence 9 = .ok (.getfield 37, 3) := by decide +kernel
theorem dX12_sentence_12 : decode cX12_sentence 12 = .ok (.invokevirtual 339, 3) := by decide +kernel
theorem dX12_sentence_15 : decode cX12_sentence 15 = .ok (.istore_n 1, 1) := by decide +kernel
theorem dX12_sentence_16 : decode cX12_sentence 16 = .ok (.aload_n 0, 1) := by decide +kernel
theorem dX12_sentence_17 : decode cX12_sentence 17 = .ok (.getfield 10, 3) := by decide +kernel
theorem dX12_sentence_20 : decode cX12_sentence 20 = .ok (.iconst 0, 1) := by decide +kernel
theorem dX12_sentence_21 : decode cX12_sentence 21 = .ok (.putfield 115, 3) := by decide +kernel
theorem dX12_sentence_24 : decode cX12_sentence 24 = .ok (.aload_n 0, 1) := by decide +kernel
theorem dX12_sentence_25 : decode cX12_sentence 25 = .ok (.aload_n 0, 1) := by decide +kernel
theorem dX12_sentence_26 : decode cX12_sentence 26 = .ok (.getfield 21, 3) := by decide +kernel
theorem dX12_sentence_29 : decode cX12_sentence 29 = .ok (.getfield 122, 3) := by decide +kernel
theorem dX12_sentence_32 : decode cX12_sentence 32 = .ok (.putfield 125, 3) := by decide +kernel
theorem dX12_sentence_35 : decode cX12_sentence 35 = .ok (.iload_n 1, 1) := by decide +kernel
theorem dX12_sentence_36 : decode cX12_sentence 36 = .ok (.ifCond .ne 13, 3) := by decide +kernel
theorem dX12_sentence_39 : decode cX12_sentence 39 = .ok (.iconst (-1), 1) := by decide +kernel
theorem dX12_sentence_40 : decode cX12_sentence 40 = .ok (.aload_n 0, 1) := by decide +kernel
theorem dX12_sentence_41 : decode cX12_sentence 41 = .ok (.getfield 21, 3) := by decide +kernel
theorem dX12_sentence_44 : decode cX12_sentence 44 = .ok (.getfield 128, 3) := by decide +kernel
theorem dX12_sentence_47 : decode cX12_sentence 47 = .ok (.isub, 1) := by decide +kernel
theorem dX12_sentence_48 : decode cX12_sentence 48 = .ok (.ireturn, 1) := by decide +kernel
theorem inX7_key_X7 : ∀ w ∈ wsX70, w ∈ wsX7_key := by decide +kernel
theorem inX7_isSign_X7 : ∀ w ∈ wsX70, w ∈ wsX7_isSign := by decide +kernel
theorem inX7_fail_X7 : ∀ w ∈ wsX70, w ∈ wsX7_fail := by decide +kernel
theorem inX12_sentence_X12 : ∀ w ∈ wsX120, w ∈ wsX12_sentence := by decide +kernel
theorem inX12_sentence_X9 : ∀ w ∈ wsX90, w ∈ wsX12_sentence := by decide +kernel
theorem inX12_sentence_X7 : ∀ w ∈ wsX70, w ∈ wsX12_sentence := by decide +kernel
set_option maxHeartbeats 4000000 in
set_option maxRecDepth 100000 in
theorem cK_find (l : Launch) (D : va_G) (k : Nat → ClassId) (B0 : Nat) (ad : Nat → Nat) (al : Nat) : g_Cr l yX2_find wsX2_find ({ frames := 0, cells := 0, slots := 0, locals := 0 }) D k (gX B0 ad al []) [.long 0] [] (ad 0) (fun u => []) 0 0 := by
  intro sz
  refine Met.ofW (cc := cX2_find) (maxL := 3) (ret := (some (.object "RungMoney$Key"))) (by decide) rfl ?_
  intro p e s m args below meth c s₁ B hml hv
  obtain ⟨rfl, hsz, hP, hK, hD0, hE⟩ := hv
  have hx := B.exec
  have hb := B.bytes
  have hr := B.returns
  have hts := atoms_spec (ws := wsX2_find) B.pre
  have hown : s.vm.findClass RX2 = some m.cls := findClass_of_methodNamed B.named
  have hlocks := B.notSynchronized
  subst hsz
  have hD := hD0.self (sz := s.heap.size)
  generalize hAe : va_A [] s.heap.size = A at hD ⊢
  have hA : ∀ q : Nat, s.heap.size ≤ q → A q := fun q h => by rw [← hAe]; exact Or.inr h
  have hS : va_S A s.heap s.heap [] := va_S.rf
  have hP : va_P D vwCl [] s.heap := hP
  have hl := lv_entry ([.long 0]) (n := 3) (Nat.le_of_ble_eq_true rfl)
  rw [lg_entry_eq]
  generalize (lg_sl ([.long 0]) ++ List.replicate (3 - (lg_sl ([.long 0])).length) Slot.unset).toArray = ls at hl ⊢
  have hl : lv_has ls 3 [(0, .long 0)] := hl
  have hAB := gX_AB hE hAe
  have hEn := hE.1.2.1.1.narrow hAB
  refine lv_iconst (v := 0) hx hb dX2_find_0 (by decide) ?_
  refine lv_istore_n (lv' := [(2, .int 0), (0, .long 0)]) hx hb dX2_find_1 rfl hl (by decide) rfl (fun ls hl => ?_)
  refine lv_iload_n hx hb dX2_find_2 rfl (lv_at hl 0 rfl) ?_
  refine va_gets (C := RX2) (n := "ALL") (d := "[LRungMoney$Key;") (v := .ref al) hx hb (hE.1.2.1.2.1.narrow hAB) hS hown (hts (.fieldLink RX2 125 "RungMoney$Key" "ALL" "[LRungMoney$Key;") (by decide +kernel)) (fun _ h9 => h9) dX2_find_3 ?_
  obtain ⟨fT, hfT, hT⟩ := hE.1.2.1.2.2.1
  refine va_tlen (v := 24) hx hb (hT.narrow hAB) hS rfl dX2_find_6 ?_
  refine lv_icmp_ge (tgt := 35) hx hb dX2_find_7 (by decide) (fun h9 => absurd h9 (by decide)) (fun _ => ?_)
  refine va_gets (C := RX2) (n := "ALL") (d := "[LRungMoney$Key;") (v := .ref al) hx hb (hE.1.2.1.2.1.narrow hAB) hS hown (hts (.fieldLink RX2 125 "RungMoney$Key" "ALL" "[LRungMoney$Key;") (by decide +kernel)) (fun _ h9 => h9) dX2_find_10 ?_
  refine lv_iload_n hx hb dX2_find_13 rfl (lv_at hl 0 rfl) ?_
  obtain ⟨fT, hfT, hT⟩ := hE.1.2.1.2.2.1
  refine g_tq (v := .ref (ad 0)) hx hb (hT.narrow hAB) hS (by unfold vp_in; decide) (by rw [← hfT]; rfl) dX2_find_14 ?_
  refine g_getOF (v := .long 0) hx hb (hE.1.2.1.2.2.2.1.narrow hAB) hS hown (hts (.fieldLink RX2 111 "RungMoney$Key" "code" "J") (by decide +kernel)) (fun _ h9 => h9) dX2_find_15 ?_
  refine lv_lload_n hx hb dX2_find_18 rfl (lv_at hl 1 rfl) ?_
  refine W.lcmp hx hb dX2_find_19 ?_
  refine lv_topi (fun x1 ex1 => ?_)
  obtain rfl : x1 = 0 := ex1.trans (by decide)
  refine lv_if_ne (tgt := 29) hx hb dX2_find_20 (by decide) (fun h9 => absurd rfl h9) (fun _ => ?_)
  refine va_gets (C := RX2) (n := "ALL") (d := "[LRungMoney$Key;") (v := .ref al) hx hb (hE.1.2.1.2.1.narrow hAB) hS hown (hts (.fieldLink RX2 125 "RungMoney$Key" "ALL" "[LRungMoney$Key;") (by decide +kernel)) (fun _ h9 => h9) dX2_find_23 ?_
  refine lv_iload_n hx hb dX2_find_26 rfl (lv_at hl 0 rfl) ?_
  obtain ⟨fT, hfT, hT⟩ := hE.1.2.1.2.2.1
  refine g_tq (v := .ref (ad 0)) hx hb (hT.narrow hAB) hS (by unfold vp_in; decide) (by rw [← hfT]; rfl) dX2_find_27 ?_
  have hP := hP.sub (ws' := []) [] rfl
  have hD := hD.sub (ws' := []) [] (by decide) rfl
  exact g_rret hx hb hr (Or.inl ⟨_, rfl⟩) hlocks hK (fun _ => 0) hP hD hS dX2_find_28 ⟨Nat.le_of_ble_eq_true rfl, Nat.le_of_ble_eq_true rfl⟩
set_option maxHeartbeats 4000000 in
set_option maxRecDepth 100000 in
theorem cK_isPlain (l : Launch) (D : va_G) (k : Nat → ClassId) (B0 : Nat) (ad : Nat → Nat) (al : Nat) : g_Ci l yX2_isPlain wsX2_isPlain ({ frames := 0, cells := 0, slots := 0, locals := 0 }) D k (gX B0 ad al []) [.ref (ad 0)] [] 0 (fun u => []) 0 0 := by
  intro sz
  refine Met.ofW (cc := cX2_isPlain) (maxL := 1) (ret := (some .boolean)) (by decide) rfl ?_
  intro p e s m args below meth c s₁ B hml hv
  obtain ⟨rfl, hsz, hP, hK, hD0, hE⟩ := hv
  have hx := B.exec
  have hb := B.bytes
  have hr := B.returns
  have hts := atoms_spec (ws := wsX2_isPlain) B.pre
  have hown : s.vm.findClass RX2 = some m.cls := findClass_of_methodNamed B.named
  have hlocks := B.notSynchronized
  subst hsz
  have hD := hD0.self (sz := s.heap.size)
  generalize hAe : va_A [] s.heap.size = A at hD ⊢
  have hA : ∀ q : Nat, s.heap.size ≤ q → A q := fun q h => by rw [← hAe]; exact Or.inr h
  have hS : va_S A s.heap s.heap [] := va_S.rf
  have hP : va_P D vwCl [] s.heap := hP
  have hl := lv_entry ([.ref (ad 0)]) (n := 1) (Nat.le_of_ble_eq_true rfl)
  rw [lg_entry_eq]
  generalize (lg_sl ([.ref (ad 0)]) ++ List.replicate (1 - (lg_sl ([.ref (ad 0)])).length) Slot.unset).toArray = ls at hl ⊢
  have hl : lv_has ls 1 [(0, .ref (ad 0))] := hl
  have hAB := gX_AB hE hAe
  have hEn := hE.1.2.1.1.narrow hAB
  refine lv_aload_n hx hb dX2_isPlain_0 rfl (lv_at hl 0 rfl) ?_
  refine va_gets (C := RX2) (n := "GONE") (d := "LRungMoney$Key;") (v := .ref (ad 3)) hx hb (hEn.1 3 (by decide)).1 hS hown (hts (.fieldLink RX2 54 "RungMoney$Key" "GONE" "LRungMoney$Key;") (by decide +kernel)) (fun _ h9 => h9) dX2_isPlain_1 ?_
  refine lv_acmp_eq (rx := some (ad 0)) (ry := some (ad 3)) (tgt := 21) hx hb dX2_isPlain_4 (by decide) (fun h9 => absurd h9 (fun z => absurd (hEn.2 0 3 (by decide) (by decide) (Option.some.inj z)) (by decide))) (fun _ => ?_)
  refine lv_aload_n hx hb dX2_isPlain_7 rfl (lv_at hl 0 rfl) ?_
  refine va_gets (C := RX2) (n := "BEARS") (d := "LRungMoney$Key;") (v := .ref (ad 4)) hx hb (hEn.1 4 (by decide)).1 hS hown (hts (.fieldLink RX2 57 "RungMoney$Key" "BEARS" "LRungMoney$Key;") (by decide +kernel)) (fun _ h9 => h9) dX2_isPlain_8 ?_
  refine lv_acmp_eq (rx := some (ad 0)) (ry := some (ad 4)) (tgt := 21) hx hb dX2_isPlain_11 (by decide) (fun h9 => absurd h9 (fun z => absurd (hEn.2 0 4 (by decide) (by decide) (Option.some.inj z)) (by decide))) (fun _ => ?_)
  refine lv_aload_n hx hb dX2_isPlain_14 rfl (lv_at hl 0 rfl) ?_
  refine va_gets (C := RX2) (n := "FALSE") (d := "LRungMoney$Key;") (v := .ref (ad 5)) hx hb (hEn.1 5 (by decide)).1 hS hown (hts (.fieldLink RX2 60 "RungMoney$Key" "FALSE" "LRungMoney$Key;") (by decide +kernel)) (fun _ h9 => h9) dX2_isPlain_15 ?_
  refine lv_acmp_ne (rx := some (ad 0)) (ry := some (ad 5)) (tgt := 25) hx hb dX2_isPlain_18 (by decide) (fun _ => ?_) (fun h9 => absurd h9 (fun z => absurd (hEn.2 0 5 (by decide) (by decide) (Option.some.inj z)) (by decide)))
  refine lv_iconst (v := 0) hx hb dX2_isPlain_25 (by decide) ?_
  have hP := hP.sub (ws' := []) [] rfl
  have hD := hD.sub (ws' := []) [] (by decide) rfl
  exact g_iret hx hb hr rfl hlocks hK (fun _ => 0) hP hD hS rfl dX2_isPlain_26 ⟨Nat.le_of_ble_eq_true rfl, Nat.le_of_ble_eq_true rfl⟩
set_option maxHeartbeats 4000000 in
set_option maxRecDepth 100000 in
theorem cK_isMeasure (l : Launch) (D : va_G) (k : Nat → ClassId) (B0 : Nat) (ad : Nat → Nat) (al : Nat) : g_Ci l yX2_isMeasure wsX2_isMeasure ({ frames := 0, cells := 0, slots := 0, locals := 0 }) D k (gX B0 ad al []) [.ref (ad 0)] [] 0 (fun u => []) 0 0 := by
  intro sz
  refine Met.ofW (cc := cX2_isMeasure) (maxL := 1) (ret := (some .boolean)) (by decide) rfl ?_
  intro p e s m args below meth c s₁ B hml hv
  obtain ⟨rfl, hsz, hP, hK, hD0, hE⟩ := hv
  have hx := B.exec
  have hb := B.bytes
  have hr := B.returns
  have hts := atoms_spec (ws := wsX2_isMeasure) B.pre
  have hown : s.vm.findClass RX2 = some m.cls := findClass_of_methodNamed B.named
  have hlocks := B.notSynchronized
  subst hsz
  have hD := hD0.self (sz := s.heap.size)
  generalize hAe : va_A [] s.heap.size = A at hD ⊢
  have hA : ∀ q : Nat, s.heap.size ≤ q → A q := fun q h => by rw [← hAe]; exact Or.inr h
  have hS : va_S A s.heap s.heap [] := va_S.rf
  have hP : va_P D vwCl [] s.heap := hP
  have hl := lv_entry ([.ref (ad 0)]) (n := 1) (Nat.le_of_ble_eq_true rfl)
  rw [lg_entry_eq]
  generalize (lg_sl ([.ref (ad 0)]) ++ List.replicate (1 - (lg_sl ([.ref (ad 0)])).length) Slot.unset).toArray = ls at hl ⊢
  have hl : lv_has ls 1 [(0, .ref (ad 0))] := hl
  have hAB := gX_AB hE hAe
  have hEn := hE.1.2.1.1.narrow hAB
  refine lv_aload_n hx hb dX2_isMeasure_0 rfl (lv_at hl 0 rfl) ?_
  refine va_gets (C := RX2) (n := "LONG") (d := "LRungMoney$Key;") (v := .ref (ad 6)) hx hb (hEn.1 6 (by decide)).1 hS hown (hts (.fieldLink RX2 66 "RungMoney$Key" "LONG" "LRungMoney$Key;") (by decide +kernel)) (fun _ h9 => h9) dX2_isMeasure_1 ?_
  refine lv_acmp_eq (rx := some (ad 0)) (ry := some (ad 6)) (tgt := 28) hx hb dX2_isMeasure_4 (by decide) (fun h9 => absurd h9 (fun z => absurd (hEn.2 0 6 (by decide) (by decide) (Option.some.inj z)) (by decide))) (fun _ => ?_)
  refine lv_aload_n hx hb dX2_isMeasure_7 rfl (lv_at hl 0 rfl) ?_
  refine va_gets (C := RX2) (n := "LOOKS") (d := "LRungMoney$Key;") (v := .ref (ad 7)) hx hb (hEn.1 7 (by decide)).1 hS hown (hts (.fieldLink RX2 69 "RungMoney$Key" "LOOKS" "LRungMoney$Key;") (by decide +kernel)) (fun _ h9 => h9) dX2_isMeasure_8 ?_
  refine lv_acmp_eq (rx := some (ad 0)) (ry := some (ad 7)) (tgt := 28) hx hb dX2_isMeasure_11 (by decide) (fun h9 => absurd h9 (fun z => absurd (hEn.2 0 7 (by decide) (by decide) (Option.some.inj z)) (by decide))) (fun _ => ?_)
  refine lv_aload_n hx hb dX2_isMeasure_14 rfl (lv_at hl 0 rfl) ?_
  refine va_gets (C := RX2) (n := "WORTH") (d := "LRungMoney$Key;") (v := .ref (ad 8)) hx hb (hEn.1 8 (by decide)).1 hS hown (hts (.fieldLink RX2 72 "RungMoney$Key" "WORTH" "LRungMoney$Key;") (by decide +kernel)) (fun _ h9 => h9) dX2_isMeasure_15 ?_
  refine lv_acmp_eq (rx := some (ad 0)) (ry := some (ad 8)) (tgt := 28) hx hb dX2_isMeasure_18 (by decide) (fun h9 => absurd h9 (fun z => absurd (hEn.2 0 8 (by decide) (by decide) (Option.some.inj z)) (by decide))) (fun _ => ?_)
  refine lv_aload_n hx hb dX2_isMeasure_21 rfl (lv_at hl 0 rfl) ?_
  refine va_gets (C := RX2) (n := "NUMBER") (d := "LRungMoney$Key;") (v := .ref (ad 9)) hx hb (hEn.1 9 (by decide)).1 hS hown (hts (.fieldLink RX2 75 "RungMoney$Key" "NUMBER" "LRungMoney$Key;") (by decide +kernel)) (fun _ h9 => h9) dX2_isMeasure_22 ?_
  refine lv_acmp_ne (rx := some (ad 0)) (ry := some (ad 9)) (tgt := 32) hx hb dX2_isMeasure_25 (by decide) (fun _ => ?_) (fun h9 => absurd h9 (fun z => absurd (hEn.2 0 9 (by decide) (by decide) (Option.some.inj z)) (by decide)))
  refine lv_iconst (v := 0) hx hb dX2_isMeasure_32 (by decide) ?_
  have hP := hP.sub (ws' := []) [] rfl
  have hD := hD.sub (ws' := []) [] (by decide) rfl
  exact g_iret hx hb hr rfl hlocks hK (fun _ => 0) hP hD hS rfl dX2_isMeasure_33 ⟨Nat.le_of_ble_eq_true rfl, Nat.le_of_ble_eq_true rfl⟩
set_option maxHeartbeats 4000000 in
set_option maxRecDepth 100000 in
theorem cR_key (l : Launch) (D : va_G) (k : Nat → ClassId) (B0 : Nat) (ad : Nat → Nat) (al : Nat) (e0 : Nat) (d0 : Nat) : g_Cr l yX7_key wsX7_key ({ frames := 1, cells := 0, slots := 0, locals := 22 }) D k (gX B0 ad al [(d0, .inr (5, [.ref e0, .int 200, .int 0, .int 0, .int 0, .long 0, .int 0, .int 0, .int 0, .int 0, .int 0]))]) [.ref d0] [(d0, .inr (5, [.ref e0, .int 200, .int 0, .int 0, .int 0, .long 0, .int 0, .int 0, .int 0, .int 0, .int 0]))] (ad 0) (fun u => [(d0, .inr (5, [.ref e0, .int 200, .int 0, .int 0, .int 0, .long 0, .int 0, .int 0, .int 0, .int 0, .int 0]))]) 0 0 := by
  intro sz
  refine Met.ofW (cc := cX7_key) (maxL := 1) (ret := (some (.object "RungMoney$Key"))) (by decide) rfl ?_
  intro p e s m args below meth c s₁ B hml hv
  obtain ⟨rfl, hsz, hP, hK, hD0, hE⟩ := hv
  have hx := B.exec
  have hb := B.bytes
  have hr := B.returns
  have hts := atoms_spec (ws := wsX7_key) B.pre
  have hown : s.vm.findClass RX7 = some m.cls := findClass_of_methodNamed B.named
  have hlocks := B.notSynchronized
  subst hsz
  have hD := hD0.self (sz := s.heap.size)
  generalize hAe : va_A [(d0, .inr (5, [.ref e0, .int 200, .int 0, .int 0, .int 0, .long 0, .int 0, .int 0, .int 0, .int 0, .int 0]))] s.heap.size = A at hD ⊢
  have hA : ∀ q : Nat, s.heap.size ≤ q → A q := fun q h => by rw [← hAe]; exact Or.inr h
  have hS : va_S A s.heap s.heap [] := va_S.rf
  have hP : va_P D vwCl [(d0, .inr (5, [.ref e0, .int 200, .int 0, .int 0, .int 0, .long 0, .int 0, .int 0, .int 0, .int 0, .int 0]))] s.heap := hP
  have hl := lv_entry ([.ref d0]) (n := 1) (Nat.le_of_ble_eq_true rfl)
  rw [lg_entry_eq]
  generalize (lg_sl ([.ref d0]) ++ List.replicate (1 - (lg_sl ([.ref d0])).length) Slot.unset).toArray = ls at hl ⊢
  have hl : lv_has ls 1 [(0, .ref d0)] := hl
  have hAB := gX_AB hE hAe
  have hEn := hE.1.2.1.1.narrow hAB
  refine lv_aload_n hx hb dX7_key_0 rfl (lv_at hl 0 rfl) ?_
  refine va_get (D := D) (ci := 5) (v := .long 0) (C := RX7) (T := TX7) (N := 11) hx hb hts inX7_key_X7 hown hK hP 0 rfl rfl 5 (by decide) (hts (.fieldLink RX7 47 "RungMoney$Reader" "word" "J") (by decide +kernel)) (fun _ h9 => h9) rfl dX7_key_1 ?_
  refine g_rS (As := [.long 0]) (rest := []) (wr := [(d0, .inr (5, [.ref e0, .int 200, .int 0, .int 0, .int 0, .long 0, .int 0, .int 0, .int 0, .int 0, .int 0]))]) ⟨hx, hb, hml, hown, hts⟩ (cK_find l D k B0 ad al) (va_cwS 1 hts gX7_key_X2_find rfl rfl rfl (by decide +kernel) ⟨Nat.le_of_ble_eq_true rfl, Nat.le_of_ble_eq_true rfl⟩) gX_ok (gX_pass hE hAB hS hD [] rfl) hK hP hD hS hA [] [0] rfl rfl (by decide) rfl hl.1 rfl (Nat.le_of_ble_eq_true rfl) dX7_key_4 ⟨Nat.le_of_ble_eq_true rfl, Nat.le_of_ble_eq_true rfl⟩ (fun u1 H locs hP hD hS => ?_)
  have hP : va_P D vwCl [(d0, .inr (5, [.ref e0, .int 200, .int 0, .int 0, .int 0, .long 0, .int 0, .int 0, .int 0, .int 0, .int 0]))] H := hP
  have hD : va_D A [(d0, .inr (5, [.ref e0, .int 200, .int 0, .int 0, .int 0, .long 0, .int 0, .int 0, .int 0, .int 0, .int 0]))] := hD
  have hP := hP.sub (ws' := [(d0, .inr (5, [.ref e0, .int 200, .int 0, .int 0, .int 0, .long 0, .int 0, .int 0, .int 0, .int 0, .int 0]))]) [0] rfl
  have hD := hD.sub (ws' := [(d0, .inr (5, [.ref e0, .int 200, .int 0, .int 0, .int 0, .long 0, .int 0, .int 0, .int 0, .int 0, .int 0]))]) [0] (by decide) rfl
  exact g_rret hx hb hr (Or.inl ⟨_, rfl⟩) hlocks hK (fun _ => 0) hP hD hS dX7_key_7 ⟨Nat.le_of_ble_eq_true rfl, Nat.le_of_ble_eq_true rfl⟩
set_option maxHeartbeats 4000000 in
set_option maxRecDepth 100000 in
theorem cR_isSign (l : Launch) (D : va_G) (k : Nat → ClassId) (e0 : Nat) (d0 : Nat) : g_Ci l yX7_isSign wsX7_isSign ({ frames := 0, cells := 0, slots := 0, locals := 0 }) D k g_E0 [.ref d0, .int 40] [(d0, .inr (5, [.ref e0, .int 200, .int 0, .int 0, .int 0, .long 0, .int 0, .int 0, .int 0, .int 0, .int 0]))] 0 (fun u => [(d0, .inr (5, [.ref e0, .int 200, .int 0, .int 0, .int 0, .long 0, .int 0, .int 0, .int 0, .int 0, .int 0]))]) 0 0 := by
  intro sz
  refine Met.ofW (cc := cX7_isSign) (maxL := 2) (ret := (some .boolean)) (by decide) rfl ?_
  intro p e s m args below meth c s₁ B hml hv
  obtain ⟨rfl, hsz, hP, hK, hD0, hE⟩ := hv
  have hx := B.exec
  have hb := B.bytes
  have hr := B.returns
  have hts := atoms_spec (ws := wsX7_isSign) B.pre
  have hown : s.vm.findClass RX7 = some m.cls := findClass_of_methodNamed B.named
  have hlocks := B.notSynchronized
  subst hsz
  have hD := hD0.self (sz := s.heap.size)
  generalize hAe : va_A [(d0, .inr (5, [.ref e0, .int 200, .int 0, .int 0, .int 0, .long 0, .int 0, .int 0, .int 0, .int 0, .int 0]))] s.heap.size = A at hD ⊢
  have hA : ∀ q : Nat, s.heap.size ≤ q → A q := fun q h => by rw [← hAe]; exact Or.inr h
  have hS : va_S A s.heap s.heap [] := va_S.rf
  have hP : va_P D vwCl [(d0, .inr (5, [.ref e0, .int 200, .int 0, .int 0, .int 0, .long 0, .int 0, .int 0, .int 0, .int 0, .int 0]))] s.heap := hP
  have hl := lv_entry ([.ref d0, .int 40]) (n := 2) (Nat.le_of_ble_eq_true rfl)
  rw [lg_entry_eq]
  generalize (lg_sl ([.ref d0, .int 40]) ++ List.replicate (2 - (lg_sl ([.ref d0, .int 40])).length) Slot.unset).toArray = ls at hl ⊢
  have hl : lv_has ls 2 [(0, .ref d0), (1, .int 40)] := hl
  refine lv_aload_n hx hb dX7_isSign_0 rfl (lv_at hl 0 rfl) ?_
  refine va_get (D := D) (ci := 5) (v := .int 0) (C := RX7) (T := TX7) (N := 11) hx hb hts inX7_isSign_X7 hown hK hP 0 rfl rfl 4 (by decide) (hts (.fieldLink RX7 57 "RungMoney$Reader" "kind" "I") (by decide +kernel)) (fun _ h9 => h9) rfl dX7_isSign_1 ?_
  refine lv_iconst (v := 3) hx hb dX7_isSign_4 (by decide) ?_
  refine lv_icmp_ne (tgt := 20) hx hb dX7_isSign_5 (by decide) (fun _ => ?_) (fun h9 => absurd h9 (by decide))
  refine lv_iconst (v := 0) hx hb dX7_isSign_20 (by decide) ?_
  have hP := hP.sub (ws' := [(d0, .inr (5, [.ref e0, .int 200, .int 0, .int 0, .int 0, .long 0, .int 0, .int 0, .int 0, .int 0, .int 0]))]) [0] rfl
  have hD := hD.sub (ws' := [(d0, .inr (5, [.ref e0, .int 200, .int 0, .int 0, .int 0, .long 0, .int 0, .int 0, .int 0, .int 0, .int 0]))]) [0] (by decide) rfl
  exact g_iret hx hb hr rfl hlocks hK (fun _ => 0) hP hD hS rfl dX7_isSign_21 ⟨Nat.le_of_ble_eq_true rfl, Nat.le_of_ble_eq_true rfl⟩
set_option maxHeartbeats 4000000 in
set_option maxRecDepth 100000 in
theorem cR_fail1 (l : Launch) (D : va_G) (k : Nat → ClassId) (e0 : Nat) (d0 : Nat) : g_Ci l yX7_fail wsX7_fail ({ frames := 0, cells := 0, slots := 0, locals := 0 }) D k g_E0 [.ref d0, .int 1] [(d0, .inr (5, [.ref e0, .int 200, .int 0, .int 0, .int 0, .long 0, .int 0, .int 0, .int 0, .int 0, .int 0]))] 0 (fun u => [(d0, .inr (5, [.ref e0, .int 200, .int 0, .int 0, .int 0, .long 0, .int 0, .int 0, .int 0, .int 1, .int 0]))]) 0 0 := by
  intro sz
  refine Met.ofW (cc := cX7_fail) (maxL := 2) (ret := (some .boolean)) (by decide) rfl ?_
  intro p e s m args below meth c s₁ B hml hv
  obtain ⟨rfl, hsz, hP, hK, hD0, hE⟩ := hv
  have hx := B.exec
  have hb := B.bytes
  have hr := B.returns
  have hts := atoms_spec (ws := wsX7_fail) B.pre
  have hown : s.vm.findClass RX7 = some m.cls := findClass_of_methodNamed B.named
  have hlocks := B.notSynchronized
  subst hsz
  have hD := hD0.self (sz := s.heap.size)
  generalize hAe : va_A [(d0, .inr (5, [.ref e0, .int 200, .int 0, .int 0, .int 0, .long 0, .int 0, .int 0, .int 0, .int 0, .int 0]))] s.heap.size = A at hD ⊢
  have hA : ∀ q : Nat, s.heap.size ≤ q → A q := fun q h => by rw [← hAe]; exact Or.inr h
  have hS : va_S A s.heap s.heap [] := va_S.rf
  have hP : va_P D vwCl [(d0, .inr (5, [.ref e0, .int 200, .int 0, .int 0, .int 0, .long 0, .int 0, .int 0, .int 0, .int 0, .int 0]))] s.heap := hP
  have hl := lv_entry ([.ref d0, .int 1]) (n := 2) (Nat.le_of_ble_eq_true rfl)
  rw [lg_entry_eq]
  generalize (lg_sl ([.ref d0, .int 1]) ++ List.replicate (2 - (lg_sl ([.ref d0, .int 1])).length) Slot.unset).toArray = ls at hl ⊢
  have hl : lv_has ls 2 [(0, .ref d0), (1, .int 1)] := hl
  refine lv_aload_n hx hb dX7_fail_0 rfl (lv_at hl 0 rfl) ?_
  refine lv_iload_n hx hb dX7_fail_1 rfl (lv_at hl 1 rfl) ?_
  refine va_put (D := D) (ci := 5) (v := .int 1) (ty := .int) (C := RX7) (T := TX7) (N := 11) hx hb hts inX7_fail_X7 tyX7 tyX7_ok nmX7 hown hK hP hD hS 0 rfl rfl 9 (by decide) (hts (.fieldLink RX7 22 "RungMoney$Reader" "fault" "I") (by decide +kernel)) (fun _ h9 => h9) rfl (by decide +kernel) rfl rfl (Nat.le_of_ble_eq_true rfl) dX7_fail_2 (fun H locs hP hD hS => ?_)
  have hP : va_P D vwCl [(d0, .inr (5, [.ref e0, .int 200, .int 0, .int 0, .int 0, .long 0, .int 0, .int 0, .int 0, .int 1, .int 0]))] H := hP
  have hD : va_D A [(d0, .inr (5, [.ref e0, .int 200, .int 0, .int 0, .int 0, .long 0, .int 0, .int 0, .int 0, .int 1, .int 0]))] := hD
  refine lv_aload_n hx hb dX7_fail_5 rfl (lv_at hl 0 rfl) ?_
  refine lv_aload_n hx hb dX7_fail_6 rfl (lv_at hl 0 rfl) ?_
  refine va_get (D := D) (ci := 5) (v := .int 0) (C := RX7) (T := TX7) (N := 11) hx hb hts inX7_fail_X7 hown hK hP 0 rfl rfl 2 (by decide) (hts (.fieldLink RX7 44 "RungMoney$Reader" "at" "I") (by decide +kernel)) (fun _ h9 => h9) rfl dX7_fail_7 ?_
  refine va_put (D := D) (ci := 5) (v := .int 0) (ty := .int) (C := RX7) (T := TX7) (N := 11) hx hb hts inX7_fail_X7 tyX7 tyX7_ok nmX7 hown hK hP hD hS 0 rfl rfl 10 (by decide) (hts (.fieldLink RX7 25 "RungMoney$Reader" "place" "I") (by decide +kernel)) (fun _ h9 => h9) rfl (by decide +kernel) rfl rfl (Nat.le_of_ble_eq_true rfl) dX7_fail_10 (fun H locs hP hD hS => ?_)
  have hP : va_P D vwCl [(d0, .inr (5, [.ref e0, .int 200, .int 0, .int 0, .int 0, .long 0, .int 0, .int 0, .int 0, .int 1, .int 0]))] H := hP
  have hD : va_D A [(d0, .inr (5, [.ref e0, .int 200, .int 0, .int 0, .int 0, .long 0, .int 0, .int 0, .int 0, .int 1, .int 0]))] := hD
  refine lv_iconst (v := 0) hx hb dX7_fail_13 (by decide) ?_
  have hP := hP.sub (ws' := [(d0, .inr (5, [.ref e0, .int 200, .int 0, .int 0, .int 0, .long 0, .int 0, .int 0, .int 0, .int 1, .int 0]))]) [0] rfl
  have hD := hD.sub (ws' := [(d0, .inr (5, [.ref e0, .int 200, .int 0, .int 0, .int 0, .long 0, .int 0, .int 0, .int 0, .int 1, .int 0]))]) [0] (by decide) rfl
  exact g_iret hx hb hr rfl hlocks hK (fun _ => 0) hP hD hS rfl dX7_fail_14 ⟨Nat.le_of_ble_eq_true rfl, Nat.le_of_ble_eq_true rfl⟩
set_option maxHeartbeats 4000000 in
set_option maxRecDepth 100000 in
theorem cS_readOne (l : Launch) (D : va_G) (k : Nat → ClassId) (B0 : Nat) (ad : Nat → Nat) (al : Nat) (e0 : Nat) (d0 : Nat) (t0 : Nat) (z0 : Nat) (z1 : Nat) (z2 : Nat) (z3 : Nat) (z4 : Nat) : g_Ci l yX8_readOne wsX8_readOne ({ frames := 2, cells := 0, slots := 0, locals := 42 }) D k (gX B0 ad al [(z0, .inr (6, [.ref z1, .ref z2, .ref z3, .ref z4, .int 0, .int 0])), (d0, .inr (5, [.ref e0, .int 200, .int 0, .int 0, .int 0, .long 0, .int 0, .int 0, .int 0, .int 0, .int 0]))]) [.ref z0, .ref d0, .ref t0, .int 1] [(z0, .inr (6, [.ref z1, .ref z2, .ref z3, .ref z4, .int 0, .int 0])), (d0, .inr (5, [.ref e0, .int 200, .int 0, .int 0, .int 0, .long 0, .int 0, .int 0, .int 0, .int 0, .int 0]))] 0 (fun u => [(z0, .inr (6, [.ref z1, .ref z2, .ref z3, .ref z4, .int 0, .int 0])), (d0, .inr (5, [.ref e0, .int 200, .int 0, .int 0, .int 0, .long 0, .int 0, .int 0, .int 0, .int 1, .int 0]))]) 0 0 := by
  intro sz
  refine Met.ofW (cc := cX8_readOne) (maxL := 7) (ret := (some .boolean)) (by decide) rfl ?_
  intro p e s m args below meth c s₁ B hml hv
  obtain ⟨rfl, hsz, hP, hK, hD0, hE⟩ := hv
  have hx := B.exec
  have hb := B.bytes
  have hr := B.returns
  have hts := atoms_spec (ws := wsX8_readOne) B.pre
  have hown : s.vm.findClass RX8 = some m.cls := findClass_of_methodNamed B.named
  have hlocks := B.notSynchronized
  subst hsz
  have hD := hD0.self (sz := s.heap.size)
  generalize hAe : va_A [(z0, .inr (6, [.ref z1, .ref z2, .ref z3, .ref z4, .int 0, .int 0])), (d0, .inr (5, [.ref e0, .int 200, .int 0, .int 0, .int 0, .long 0, .int 0, .int 0, .int 0, .int 0, .int 0]))] s.heap.size = A at hD ⊢
  have hA : ∀ q : Nat, s.heap.size ≤ q → A q := fun q h => by rw [← hAe]; exact Or.inr h
  have hS : va_S A s.heap s.heap [] := va_S.rf
  have hP : va_P D vwCl [(z0, .inr (6, [.ref z1, .ref z2, .ref z3, .ref z4, .int 0, .int 0])), (d0, .inr (5, [.ref e0, .int 200, .int 0, .int 0, .int 0, .long 0, .int 0, .int 0, .int 0, .int 0, .int 0]))] s.heap := hP
  have hl := lv_entry ([.ref z0, .ref d0, .ref t0, .int 1]) (n := 7) (Nat.le_of_ble_eq_true rfl)
  rw [lg_entry_eq]
  generalize (lg_sl ([.ref z0, .ref d0, .ref t0, .int 1]) ++ List.replicate (7 - (lg_sl ([.ref z0, .ref d0, .ref t0, .int 1])).length) Slot.unset).toArray = ls at hl ⊢
  have hl : lv_has ls 7 [(0, .ref z0), (1, .ref d0), (2, .ref t0), (3, .int 1)] := hl
  have hAB := gX_AB hE hAe
  have hEn := hE.1.2.1.1.narrow hAB
  refine lv_aload_n hx hb dX8_readOne_0 rfl (lv_at hl 1 rfl) ?_
  refine g_rV (As := []) (rest := []) (wr := [(z0, .inr (6, [.ref z1, .ref z2, .ref z3, .ref z4, .int 0, .int 0]))]) ⟨hx, hb, hml, hown, hts⟩ (cR_key l D k B0 ad al e0 d0) (cwV 0 hts gX8_readOne_X7_key rfl rfl rfl (by decide +kernel) ⟨Nat.le_of_ble_eq_true rfl, Nat.le_of_ble_eq_true rfl⟩) gX_ok (gX_pass hE hAB hS hD [1] rfl) hK hP hD hS hA (va_recv hK hP (ci := 5) (q0 := 1) rfl rfl) [1] [0] rfl rfl (by decide) rfl hl.1 rfl (Nat.le_of_ble_eq_true rfl) dX8_readOne_1 ⟨Nat.le_of_ble_eq_true rfl, Nat.le_of_ble_eq_true rfl⟩ (fun u1 H locs hP hD hS => ?_)
  have hP : va_P D vwCl [(z0, .inr (6, [.ref z1, .ref z2, .ref z3, .ref z4, .int 0, .int 0])), (d0, .inr (5, [.ref e0, .int 200, .int 0, .int 0, .int 0, .long 0, .int 0, .int 0, .int 0, .int 0, .int 0]))] H := hP
  have hD : va_D A [(z0, .inr (6, [.ref z1, .ref z2, .ref z3, .ref z4, .int 0, .int 0])), (d0, .inr (5, [.ref e0, .int 200, .int 0, .int 0, .int 0, .long 0, .int 0, .int 0, .int 0, .int 0, .int 0]))] := hD
  refine lv_astore (lv' := [(4, .ref (ad 0)), (0, .ref z0), (1, .ref d0), (2, .ref t0), (3, .int 1)]) hx hb dX8_readOne_4 hl (by decide) rfl (fun ls hl => ?_)
  refine lv_aload_n hx hb dX8_readOne_6 rfl (lv_at hl 2 rfl) ?_
  refine lv_bipush (v := 40) hx hb dX8_readOne_7 (by decide) ?_
  refine g_iV (As := [.int 40]) (rest := []) (wr := [(z0, .inr (6, [.ref z1, .ref z2, .ref z3, .ref z4, .int 0, .int 0]))]) ⟨hx, hb, hml, hown, hts⟩ (cR_isSign l D k e0 d0) (cwV 1 hts gX8_readOne_X7_isSign rfl rfl rfl (by decide +kernel) ⟨Nat.le_of_ble_eq_true rfl, Nat.le_of_ble_eq_true rfl⟩) g_E0_ok (fun _ _ _ => trivial) hK hP hD hS hA 1 5 rfl rfl rfl [1] [0] rfl rfl (by decide) rfl hl.1 rfl (Nat.le_of_ble_eq_true rfl) dX8_readOne_9 ⟨Nat.le_of_ble_eq_true rfl, Nat.le_of_ble_eq_true rfl⟩ (fun u2 H locs hP hD hS => ?_)
  have hP : va_P D vwCl [(z0, .inr (6, [.ref z1, .ref z2, .ref z3, .ref z4, .int 0, .int 0])), (d0, .inr (5, [.ref e0, .int 200, .int 0, .int 0, .int 0, .long 0, .int 0, .int 0, .int 0, .int 0, .int 0]))] H := hP
  have hD : va_D A [(z0, .inr (6, [.ref z1, .ref z2, .ref z3, .ref z4, .int 0, .int 0])), (d0, .inr (5, [.ref e0, .int 200, .int 0, .int 0, .int 0, .long 0, .int 0, .int 0, .int 0, .int 0, .int 0]))] := hD
  refine lv_istore (lv' := [(5, .int 0), (4, .ref (ad 0)), (0, .ref z0), (1, .ref d0), (2, .ref t0), (3, .int 1)]) hx hb dX8_readOne_12 hl (by decide) rfl (fun ls hl => ?_)
  refine lv_iload hx hb dX8_readOne_14 (lv_at hl 0 rfl) ?_
  refine lv_if_ne (tgt := 57) hx hb dX8_readOne_16 (by decide) (fun h9 => absurd rfl h9) (fun _ => ?_)
  refine lv_aload hx hb dX8_readOne_19 (lv_at hl 1 rfl) ?_
  refine va_gets (C := RX2) (n := "NOT") (d := "LRungMoney$Key;") (v := .ref (ad 1)) hx hb (hEn.1 1 (by decide)).1 hS hown (hts (.fieldLink RX8 82 "RungMoney$Key" "NOT" "LRungMoney$Key;") (by decide +kernel)) (fun _ h9 => h9) dX8_readOne_21 ?_
  refine lv_acmp_eq (rx := some (ad 0)) (ry := some (ad 1)) (tgt := 57) hx hb dX8_readOne_24 (by decide) (fun h9 => absurd h9 (fun z => absurd (hEn.2 0 1 (by decide) (by decide) (Option.some.inj z)) (by decide))) (fun _ => ?_)
  refine lv_aload hx hb dX8_readOne_27 (lv_at hl 1 rfl) ?_
  refine va_gets (C := RX2) (n := "OF") (d := "LRungMoney$Key;") (v := .ref (ad 2)) hx hb (hEn.1 2 (by decide)).1 hS hown (hts (.fieldLink RX8 85 "RungMoney$Key" "OF" "LRungMoney$Key;") (by decide +kernel)) (fun _ h9 => h9) dX8_readOne_29 ?_
  refine lv_acmp_eq (rx := some (ad 0)) (ry := some (ad 2)) (tgt := 57) hx hb dX8_readOne_32 (by decide) (fun h9 => absurd h9 (fun z => absurd (hEn.2 0 2 (by decide) (by decide) (Option.some.inj z)) (by decide))) (fun _ => ?_)
  refine lv_aload hx hb dX8_readOne_35 (lv_at hl 1 rfl) ?_
  refine g_iVE (As := []) (rest := []) (wr := [(z0, .inr (6, [.ref z1, .ref z2, .ref z3, .ref z4, .int 0, .int 0])), (d0, .inr (5, [.ref e0, .int 200, .int 0, .int 0, .int 0, .long 0, .int 0, .int 0, .int 0, .int 0, .int 0]))]) ⟨hx, hb, hml, hown, hts⟩ (cK_isPlain l D k B0 ad al) (cwV 0 hts gX8_readOne_X2_isPlain rfl rfl rfl (by decide +kernel) ⟨Nat.le_of_ble_eq_true rfl, Nat.le_of_ble_eq_true rfl⟩) gX_ok (gX_pass hE hAB hS hD [] rfl) hK hP hD hS hA (va_recvE hEn (i := 0) (by decide) hS) [] [0, 1] rfl rfl (by decide) rfl hl.1 rfl (Nat.le_of_ble_eq_true rfl) dX8_readOne_37 ⟨Nat.le_of_ble_eq_true rfl, Nat.le_of_ble_eq_true rfl⟩ (fun u3 H locs hP hD hS => ?_)
  have hP : va_P D vwCl [(z0, .inr (6, [.ref z1, .ref z2, .ref z3, .ref z4, .int 0, .int 0])), (d0, .inr (5, [.ref e0, .int 200, .int 0, .int 0, .int 0, .long 0, .int 0, .int 0, .int 0, .int 0, .int 0]))] H := hP
  have hD : va_D A [(z0, .inr (6, [.ref z1, .ref z2, .ref z3, .ref z4, .int 0, .int 0])), (d0, .inr (5, [.ref e0, .int 200, .int 0, .int 0, .int 0, .long 0, .int 0, .int 0, .int 0, .int 0, .int 0]))] := hD
  refine lv_if_ne (tgt := 57) hx hb dX8_readOne_40 (by decide) (fun h9 => absurd rfl h9) (fun _ => ?_)
  refine lv_aload hx hb dX8_readOne_43 (lv_at hl 1 rfl) ?_
  refine g_iVE (As := []) (rest := []) (wr := [(z0, .inr (6, [.ref z1, .ref z2, .ref z3, .ref z4, .int 0, .int 0])), (d0, .inr (5, [.ref e0, .int 200, .int 0, .int 0, .int 0, .long 0, .int 0, .int 0, .int 0, .int 0, .int 0]))]) ⟨hx, hb, hml, hown, hts⟩ (cK_isMeasure l D k B0 ad al) (cwV 0 hts gX8_readOne_X2_isMeasure rfl rfl rfl (by decide +kernel) ⟨Nat.le_of_ble_eq_true rfl, Nat.le_of_ble_eq_true rfl⟩) gX_ok (gX_pass hE hAB hS hD [] rfl) hK hP hD hS hA (va_recvE hEn (i := 0) (by decide) hS) [] [0, 1] rfl rfl (by decide) rfl hl.1 rfl (Nat.le_of_ble_eq_true rfl) dX8_readOne_45 ⟨Nat.le_of_ble_eq_true rfl, Nat.le_of_ble_eq_true rfl⟩ (fun u4 H locs hP hD hS => ?_)
  have hP : va_P D vwCl [(z0, .inr (6, [.ref z1, .ref z2, .ref z3, .ref z4, .int 0, .int 0])), (d0, .inr (5, [.ref e0, .int 200, .int 0, .int 0, .int 0, .long 0, .int 0, .int 0, .int 0, .int 0, .int 0]))] H := hP
  have hD : va_D A [(z0, .inr (6, [.ref z1, .ref z2, .ref z3, .ref z4, .int 0, .int 0])), (d0, .inr (5, [.ref e0, .int 200, .int 0, .int 0, .int 0, .long 0, .int 0, .int 0, .int 0, .int 0, .int 0]))] := hD
  refine lv_if_ne (tgt := 57) hx hb dX8_readOne_48 (by decide) (fun h9 => absurd rfl h9) (fun _ => ?_)
  refine lv_aload_n hx hb dX8_readOne_51 rfl (lv_at hl 3 rfl) ?_
  refine lv_iconst (v := 1) hx hb dX8_readOne_52 (by decide) ?_
  refine g_iV (As := [.int 1]) (rest := []) (wr := [(z0, .inr (6, [.ref z1, .ref z2, .ref z3, .ref z4, .int 0, .int 0]))]) ⟨hx, hb, hml, hown, hts⟩ (cR_fail1 l D k e0 d0) (cwV 1 hts gX8_readOne_X7_fail rfl rfl rfl (by decide +kernel) ⟨Nat.le_of_ble_eq_true rfl, Nat.le_of_ble_eq_true rfl⟩) g_E0_ok (fun _ _ _ => trivial) hK hP hD hS hA 1 5 rfl rfl rfl [1] [0] rfl rfl (by decide) rfl hl.1 rfl (Nat.le_of_ble_eq_true rfl) dX8_readOne_53 ⟨Nat.le_of_ble_eq_true rfl, Nat.le_of_ble_eq_true rfl⟩ (fun u5 H locs hP hD hS => ?_)
  have hP : va_P D vwCl [(z0, .inr (6, [.ref z1, .ref z2, .ref z3, .ref z4, .int 0, .int 0])), (d0, .inr (5, [.ref e0, .int 200, .int 0, .int 0, .int 0, .long 0, .int 0, .int 0, .int 0, .int 1, .int 0]))] H := hP
  have hD : va_D A [(z0, .inr (6, [.ref z1, .ref z2, .ref z3, .ref z4, .int 0, .int 0])), (d0, .inr (5, [.ref e0, .int 200, .int 0, .int 0, .int 0, .long 0, .int 0, .int 0, .int 0, .int 1, .int 0]))] := hD
  have hP := hP.sub (ws' := [(z0, .inr (6, [.ref z1, .ref z2, .ref z3, .ref z4, .int 0, .int 0])), (d0, .inr (5, [.ref e0, .int 200, .int 0, .int 0, .int 0, .long 0, .int 0, .int 0, .int 0, .int 1, .int 0]))]) [0, 1] rfl
  have hD := hD.sub (ws' := [(z0, .inr (6, [.ref z1, .ref z2, .ref z3, .ref z4, .int 0, .int 0])), (d0, .inr (5, [.ref e0, .int 200, .int 0, .int 0, .int 0, .long 0, .int 0, .int 0, .int 0, .int 1, .int 0]))]) [0, 1] (by decide) rfl
  exact g_iret hx hb hr rfl hlocks hK (fun _ => 0) hP hD hS rfl dX8_readOne_56 ⟨Nat.le_of_ble_eq_true rfl, Nat.le_of_ble_eq_true rfl⟩
set_option maxHeartbeats 4000000 in
set_option maxRecDepth 100000 in
theorem cS_readAll (l : Launch) (D : va_G) (k : Nat → ClassId) (B0 : Nat) (ad : Nat → Nat) (al : Nat) (e0 : Nat) (d0 : Nat) (t0 : Nat) (z0 : Nat) (z1 : Nat) (z2 : Nat) (z3 : Nat) (z4 : Nat) : g_Ci l yX8_readAll wsX8_readAll ({ frames := 3, cells := 0, slots := 0, locals := 68 }) D k (gX B0 ad al [(z0, .inr (6, [.ref z1, .ref z2, .ref z3, .ref z4, .int 0, .int 0])), (d0, .inr (5, [.ref e0, .int 200, .int 0, .int 0, .int 0, .long 0, .int 0, .int 0, .int 0, .int 0, .int 0]))]) [.ref z0, .ref d0, .ref t0, .int 1] [(z0, .inr (6, [.ref z1, .ref z2, .ref z3, .ref z4, .int 0, .int 0])), (d0, .inr (5, [.ref e0, .int 200, .int 0, .int 0, .int 0, .long 0, .int 0, .int 0, .int 0, .int 0, .int 0]))] 0 (fun u => [(z0, .inr (6, [.ref z1, .ref z2, .ref z3, .ref z4, .int 0, .int 0])), (d0, .inr (5, [.ref e0, .int 200, .int 0, .int 0, .int 0, .long 0, .int 0, .int 0, .int 0, .int 1, .int 0]))]) 0 0 := by
  intro sz
  refine Met.ofW (cc := cX8_readAll) (maxL := 5) (ret := (some .boolean)) (by decide) rfl ?_
  intro p e s m args below meth c s₁ B hml hv
  obtain ⟨rfl, hsz, hP, hK, hD0, hE⟩ := hv
  have hx := B.exec
  have hb := B.bytes
  have hr := B.returns
  have hts := atoms_spec (ws := wsX8_readAll) B.pre
  have hown : s.vm.findClass RX8 = some m.cls := findClass_of_methodNamed B.named
  have hlocks := B.notSynchronized
  subst hsz
  have hD := hD0.self (sz := s.heap.size)
  generalize hAe : va_A [(z0, .inr (6, [.ref z1, .ref z2, .ref z3, .ref z4, .int 0, .int 0])), (d0, .inr (5, [.ref e0, .int 200, .int 0, .int 0, .int 0, .long 0, .int 0, .int 0, .int 0, .int 0, .int 0]))] s.heap.size = A at hD ⊢
  have hA : ∀ q : Nat, s.heap.size ≤ q → A q := fun q h => by rw [← hAe]; exact Or.inr h
  have hS : va_S A s.heap s.heap [] := va_S.rf
  have hP : va_P D vwCl [(z0, .inr (6, [.ref z1, .ref z2, .ref z3, .ref z4, .int 0, .int 0])), (d0, .inr (5, [.ref e0, .int 200, .int 0, .int 0, .int 0, .long 0, .int 0, .int 0, .int 0, .int 0, .int 0]))] s.heap := hP
  have hl := lv_entry ([.ref z0, .ref d0, .ref t0, .int 1]) (n := 5) (Nat.le_of_ble_eq_true rfl)
  rw [lg_entry_eq]
  generalize (lg_sl ([.ref z0, .ref d0, .ref t0, .int 1]) ++ List.replicate (5 - (lg_sl ([.ref z0, .ref d0, .ref t0, .int 1])).length) Slot.unset).toArray = ls at hl ⊢
  have hl : lv_has ls 5 [(0, .ref z0), (1, .ref d0), (2, .ref t0), (3, .int 1)] := hl
  have hAB := gX_AB hE hAe
  have hEn := hE.1.2.1.1.narrow hAB
  refine lv_aload_n hx hb dX8_readAll_0 rfl (lv_at hl 0 rfl) ?_
  refine lv_aload_n hx hb dX8_readAll_1 rfl (lv_at hl 1 rfl) ?_
  refine lv_aload_n hx hb dX8_readAll_2 rfl (lv_at hl 2 rfl) ?_
  refine lv_iload_n hx hb dX8_readAll_3 rfl (lv_at hl 3 rfl) ?_
  refine g_iV (As := [.ref d0, .ref t0, .int 1]) (rest := []) (wr := []) ⟨hx, hb, hml, hown, hts⟩ (cS_readOne l D k B0 ad al e0 d0 t0 z0 z1 z2 z3 z4) (cwV 3 hts gX8_readAll_X8_readOne rfl rfl rfl (by decide +kernel) ⟨Nat.le_of_ble_eq_true rfl, Nat.le_of_ble_eq_true rfl⟩) gX_ok (gX_pass hE hAB hS hD [0, 1] rfl) hK hP hD hS hA 0 6 rfl rfl rfl [0, 1] [] rfl rfl (by decide) rfl hl.1 rfl (Nat.le_of_ble_eq_true rfl) dX8_readAll_4 ⟨Nat.le_of_ble_eq_true rfl, Nat.le_of_ble_eq_true rfl⟩ (fun u1 H locs hP hD hS => ?_)
  have hP : va_P D vwCl [(z0, .inr (6, [.ref z1, .ref z2, .ref z3, .ref z4, .int 0, .int 0])), (d0, .inr (5, [.ref e0, .int 200, .int 0, .int 0, .int 0, .long 0, .int 0, .int 0, .int 0, .int 1, .int 0]))] H := hP
  have hD : va_D A [(z0, .inr (6, [.ref z1, .ref z2, .ref z3, .ref z4, .int 0, .int 0])), (d0, .inr (5, [.ref e0, .int 200, .int 0, .int 0, .int 0, .long 0, .int 0, .int 0, .int 0, .int 1, .int 0]))] := hD
  refine lv_if_ne (tgt := 12) hx hb dX8_readAll_7 (by decide) (fun h9 => absurd rfl h9) (fun _ => ?_)
  refine lv_iconst (v := 0) hx hb dX8_readAll_10 (by decide) ?_
  have hP := hP.sub (ws' := [(z0, .inr (6, [.ref z1, .ref z2, .ref z3, .ref z4, .int 0, .int 0])), (d0, .inr (5, [.ref e0, .int 200, .int 0, .int 0, .int 0, .long 0, .int 0, .int 0, .int 0, .int 1, .int 0]))]) [0, 1] rfl
  have hD := hD.sub (ws' := [(z0, .inr (6, [.ref z1, .ref z2, .ref z3, .ref z4, .int 0, .int 0])), (d0, .inr (5, [.ref e0, .int 200, .int 0, .int 0, .int 0, .long 0, .int 0, .int 0, .int 0, .int 1, .int 0]))]) [0, 1] (by decide) rfl
  exact g_iret hx hb hr rfl hlocks hK (fun _ => 0) hP hD hS rfl dX8_readAll_11 ⟨Nat.le_of_ble_eq_true rfl, Nat.le_of_ble_eq_true rfl⟩
set_option maxHeartbeats 4000000 in
set_option maxRecDepth 100000 in
theorem cS_readCond (l : Launch) (D : va_G) (k : Nat → ClassId) (B0 : Nat) (ad : Nat → Nat) (al : Nat) (e0 : Nat) (d0 : Nat) (t0 : Nat) (z0 : Nat) (z1 : Nat) (z2 : Nat) (z3 : Nat) (z4 : Nat) : g_Ci l yX8_readCond wsX8_readCond ({ frames := 4, cells := 0, slots := 0, locals := 92 }) D k (gX B0 ad al [(z0, .inr (6, [.ref z1, .ref z2, .ref z3, .ref z4, .int 0, .int 0])), (d0, .inr (5, [.ref e0, .int 200, .int 0, .int 0, .int 0, .long 0, .int 0, .int 0, .int 0, .int 0, .int 0]))]) [.ref z0, .ref d0, .ref t0, .int 1] [(z0, .inr (6, [.ref z1, .ref z2, .ref z3, .ref z4, .int 0, .int 0])), (d0, .inr (5, [.ref e0, .int 200, .int 0, .int 0, .int 0, .long 0, .int 0, .int 0, .int 0, .int 0, .int 0]))] 0 (fun u => [(z0, .inr (6, [.ref z1, .ref z2, .ref z3, .ref z4, .int 0, .int 0])), (d0, .inr (5, [.ref e0, .int 200, .int 0, .int 0, .int 0, .long 0, .int 0, .int 0, .int 0, .int 1, .int 0]))]) 0 0 := by
  intro sz
  refine Met.ofW (cc := cX8_readCond) (maxL := 5) (ret := (some .boolean)) (by decide) rfl ?_
  intro p e s m args below meth c s₁ B hml hv
  obtain ⟨rfl, hsz, hP, hK, hD0, hE⟩ := hv
  have hx := B.exec
  have hb := B.bytes
  have hr := B.returns
  have hts := atoms_spec (ws := wsX8_readCond) B.pre
  have hown : s.vm.findClass RX8 = some m.cls := findClass_of_methodNamed B.named
  have hlocks := B.notSynchronized
  subst hsz
  have hD := hD0.self (sz := s.heap.size)
  generalize hAe : va_A [(z0, .inr (6, [.ref z1, .ref z2, .ref z3, .ref z4, .int 0, .int 0])), (d0, .inr (5, [.ref e0, .int 200, .int 0, .int 0, .int 0, .long 0, .int 0, .int 0, .int 0, .int 0, .int 0]))] s.heap.size = A at hD ⊢
  have hA : ∀ q : Nat, s.heap.size ≤ q → A q := fun q h => by rw [← hAe]; exact Or.inr h
  have hS : va_S A s.heap s.heap [] := va_S.rf
  have hP : va_P D vwCl [(z0, .inr (6, [.ref z1, .ref z2, .ref z3, .ref z4, .int 0, .int 0])), (d0, .inr (5, [.ref e0, .int 200, .int 0, .int 0, .int 0, .long 0, .int 0, .int 0, .int 0, .int 0, .int 0]))] s.heap := hP
  have hl := lv_entry ([.ref z0, .ref d0, .ref t0, .int 1]) (n := 5) (Nat.le_of_ble_eq_true rfl)
  rw [lg_entry_eq]
  generalize (lg_sl ([.ref z0, .ref d0, .ref t0, .int 1]) ++ List.replicate (5 - (lg_sl ([.ref z0, .ref d0, .ref t0, .int 1])).length) Slot.unset).toArray = ls at hl ⊢
  have hl : lv_has ls 5 [(0, .ref z0), (1, .ref d0), (2, .ref t0), (3, .int 1)] := hl
  have hAB := gX_AB hE hAe
  have hEn := hE.1.2.1.1.narrow hAB
  refine lv_aload_n hx hb dX8_readCond_0 rfl (lv_at hl 0 rfl) ?_
  refine lv_aload_n hx hb dX8_readCond_1 rfl (lv_at hl 1 rfl) ?_
  refine lv_aload_n hx hb dX8_readCond_2 rfl (lv_at hl 2 rfl) ?_
  refine lv_iload_n hx hb dX8_readCond_3 rfl (lv_at hl 3 rfl) ?_
  refine g_iV (As := [.ref d0, .ref t0, .int 1]) (rest := []) (wr := []) ⟨hx, hb, hml, hown, hts⟩ (cS_readAll l D k B0 ad al e0 d0 t0 z0 z1 z2 z3 z4) (cwV 3 hts gX8_readCond_X8_readAll rfl rfl rfl (by decide +kernel) ⟨Nat.le_of_ble_eq_true rfl, Nat.le_of_ble_eq_true rfl⟩) gX_ok (gX_pass hE hAB hS hD [0, 1] rfl) hK hP hD hS hA 0 6 rfl rfl rfl [0, 1] [] rfl rfl (by decide) rfl hl.1 rfl (Nat.le_of_ble_eq_true rfl) dX8_readCond_4 ⟨Nat.le_of_ble_eq_true rfl, Nat.le_of_ble_eq_true rfl⟩ (fun u1 H locs hP hD hS => ?_)
  have hP : va_P D vwCl [(z0, .inr (6, [.ref z1, .ref z2, .ref z3, .ref z4, .int 0, .int 0])), (d0, .inr (5, [.ref e0, .int 200, .int 0, .int 0, .int 0, .long 0, .int 0, .int 0, .int 0, .int 1, .int 0]))] H := hP
  have hD : va_D A [(z0, .inr (6, [.ref z1, .ref z2, .ref z3, .ref z4, .int 0, .int 0])), (d0, .inr (5, [.ref e0, .int 200, .int 0, .int 0, .int 0, .long 0, .int 0, .int 0, .int 0, .int 1, .int 0]))] := hD
  refine lv_if_ne (tgt := 12) hx hb dX8_readCond_7 (by decide) (fun h9 => absurd rfl h9) (fun _ => ?_)
  refine lv_iconst (v := 0) hx hb dX8_readCond_10 (by decide) ?_
  have hP := hP.sub (ws' := [(z0, .inr (6, [.ref z1, .ref z2, .ref z3, .ref z4, .int 0, .int 0])), (d0, .inr (5, [.ref e0, .int 200, .int 0, .int 0, .int 0, .long 0, .int 0, .int 0, .int 0, .int 1, .int 0]))]) [0, 1] rfl
  have hD := hD.sub (ws' := [(z0, .inr (6, [.ref z1, .ref z2, .ref z3, .ref z4, .int 0, .int 0])), (d0, .inr (5, [.ref e0, .int 200, .int 0, .int 0, .int 0, .long 0, .int 0, .int 0, .int 0, .int 1, .int 0]))]) [0, 1] (by decide) rfl
  exact g_iret hx hb hr rfl hlocks hK (fun _ => 0) hP hD hS rfl dX8_readCond_11 ⟨Nat.le_of_ble_eq_true rfl, Nat.le_of_ble_eq_true rfl⟩
set_option maxHeartbeats 4000000 in
set_option maxRecDepth 100000 in
theorem cS_read (l : Launch) (D : va_G) (k : Nat → ClassId) (B0 : Nat) (ad : Nat → Nat) (al : Nat) (e0 : Nat) (d0 : Nat) (t0 : Nat) (z0 : Nat) (e1 : Nat) (z1 : Nat) (z2 : Nat) (z3 : Nat) (z4 : Nat) : g_Ci l yX8_read wsX8_read ({ frames := 5, cells := 0, slots := 0, locals := 116 }) D k (gX B0 ad al [(z0, .inr (6, [.ref z1, .ref z2, .ref z3, .ref z4, .int 0, .int 0])), (d0, .inr (5, [.ref e0, .int 0, .int 0, .int 0, .int 0, .long 0, .int 0, .int 0, .int 0, .int 0, .int 0])), (e0, .inr (7, [.ref e1, .int 0]))]) [.ref z0, .ref d0, .ref t0] [(z0, .inr (6, [.ref z1, .ref z2, .ref z3, .ref z4, .int 0, .int 0])), (d0, .inr (5, [.ref e0, .int 0, .int 0, .int 0, .int 0, .long 0, .int 0, .int 0, .int 0, .int 0, .int 0])), (e0, .inr (7, [.ref e1, .int 0]))] 0 (fun u => [(z0, .inr (6, [.ref z1, .ref z2, .ref z3, .ref z4, .int 0, .int 0])), (d0, .inr (5, [.ref e0, .int 200, .int 0, .int 0, .int 0, .long 0, .int 0, .int 0, .int 0, .int 1, .int 0])), (e0, .inr (7, [.ref e1, .int 0]))]) 0 0 := by
  intro sz
  refine Met.ofW (cc := cX8_read) (maxL := 3) (ret := (some .boolean)) (by decide) rfl ?_
  intro p e s m args below meth c s₁ B hml hv
  obtain ⟨rfl, hsz, hP, hK, hD0, hE⟩ := hv
  have hx := B.exec
  have hb := B.bytes
  have hr := B.returns
  have hts := atoms_spec (ws := wsX8_read) B.pre
  have hown : s.vm.findClass RX8 = some m.cls := findClass_of_methodNamed B.named
  have hlocks := B.notSynchronized
  subst hsz
  have hD := hD0.self (sz := s.heap.size)
  generalize hAe : va_A [(z0, .inr (6, [.ref z1, .ref z2, .ref z3, .ref z4, .int 0, .int 0])), (d0, .inr (5, [.ref e0, .int 0, .int 0, .int 0, .int 0, .long 0, .int 0, .int 0, .int 0, .int 0, .int 0])), (e0, .inr (7, [.ref e1, .int 0]))] s.heap.size = A at hD ⊢
  have hA : ∀ q : Nat, s.heap.size ≤ q → A q := fun q h => by rw [← hAe]; exact Or.inr h
  have hS : va_S A s.heap s.heap [] := va_S.rf
  have hP : va_P D vwCl [(z0, .inr (6, [.ref z1, .ref z2, .ref z3, .ref z4, .int 0, .int 0])), (d0, .inr (5, [.ref e0, .int 0, .int 0, .int 0, .int 0, .long 0, .int 0, .int 0, .int 0, .int 0, .int 0])), (e0, .inr (7, [.ref e1, .int 0]))] s.heap := hP
  have hl := lv_entry ([.ref z0, .ref d0, .ref t0]) (n := 3) (Nat.le_of_ble_eq_true rfl)
  rw [lg_entry_eq]
  generalize (lg_sl ([.ref z0, .ref d0, .ref t0]) ++ List.replicate (3 - (lg_sl ([.ref z0, .ref d0, .ref t0])).length) Slot.unset).toArray = ls at hl ⊢
  have hl : lv_has ls 3 [(0, .ref z0), (1, .ref d0), (2, .ref t0)] := hl
  have hAB := gX_AB hE hAe
  have hEn := hE.1.2.1.1.narrow hAB
  refine lv_aload_n hx hb dX8_read_0 rfl (lv_at hl 0 rfl) ?_
  refine g_vV (As := []) (rest := []) (wr := [(d0, .inr (5, [.ref e0, .int 0, .int 0, .int 0, .int 0, .long 0, .int 0, .int 0, .int 0, .int 0, .int 0])), (e0, .inr (7, [.ref e1, .int 0]))]) ⟨hx, hb, hml, hown, hts⟩ (cS_forget l D k z0 z1 z2 z3 z4) (cwV 0 hts gX8_read_X8_forget rfl rfl rfl (by decide +kernel) ⟨Nat.le_of_ble_eq_true rfl, Nat.le_of_ble_eq_true rfl⟩) g_E0_ok (fun _ _ _ => trivial) hK hP hD hS hA 0 6 rfl rfl rfl [0] [1, 2] rfl rfl (by decide) rfl hl.1 rfl (Nat.le_of_ble_eq_true rfl) dX8_read_1 ⟨Nat.le_of_ble_eq_true rfl, Nat.le_of_ble_eq_true rfl⟩ (fun u1 H locs hP hD hS => ?_)
  have hP : va_P D vwCl [(d0, .inr (5, [.ref e0, .int 0, .int 0, .int 0, .int 0, .long 0, .int 0, .int 0, .int 0, .int 0, .int 0])), (e0, .inr (7, [.ref e1, .int 0])), (z0, .inr (6, [.ref z1, .ref z2, .ref z3, .ref z4, .int 0, .int 0]))] H := hP
  have hD : va_D A [(d0, .inr (5, [.ref e0, .int 0, .int 0, .int 0, .int 0, .long 0, .int 0, .int 0, .int 0, .int 0, .int 0])), (e0, .inr (7, [.ref e1, .int 0])), (z0, .inr (6, [.ref z1, .ref z2, .ref z3, .ref z4, .int 0, .int 0]))] := hD
  refine lv_aload_n hx hb dX8_read_4 rfl (lv_at hl 1 rfl) ?_
  refine lv_sipush (v := 200) hx hb dX8_read_5 (by decide) ?_
  refine g_vV (As := [.int 200]) (rest := []) (wr := [(z0, .inr (6, [.ref z1, .ref z2, .ref z3, .ref z4, .int 0, .int 0]))]) ⟨hx, hb, hml, hown, hts⟩ (cR_open200 l D k d0 e0 e1) (cwV 1 hts gX8_read_X7_open rfl rfl rfl (by decide +kernel) ⟨Nat.le_of_ble_eq_true rfl, Nat.le_of_ble_eq_true rfl⟩) g_E0_ok (fun _ _ _ => trivial) hK hP hD hS hA 0 5 rfl rfl rfl [0, 1] [2] rfl rfl (by decide) rfl hl.1 rfl (Nat.le_of_ble_eq_true rfl) dX8_read_8 ⟨Nat.le_of_ble_eq_true rfl, Nat.le_of_ble_eq_true rfl⟩ (fun u2 H locs hP hD hS => ?_)
  have hP : va_P D vwCl [(z0, .inr (6, [.ref z1, .ref z2, .ref z3, .ref z4, .int 0, .int 0])), (d0, .inr (5, [.ref e0, .int 200, .int 0, .int 0, .int 0, .long 0, .int 0, .int 0, .int 0, .int 0, .int 0])), (e0, .inr (7, [.ref e1, .int 0]))] H := hP
  have hD : va_D A [(z0, .inr (6, [.ref z1, .ref z2, .ref z3, .ref z4, .int 0, .int 0])), (d0, .inr (5, [.ref e0, .int 200, .int 0, .int 0, .int 0, .long 0, .int 0, .int 0, .int 0, .int 0, .int 0])), (e0, .inr (7, [.ref e1, .int 0]))] := hD
  refine lv_aload_n hx hb dX8_read_11 rfl (lv_at hl 0 rfl) ?_
  refine lv_aload_n hx hb dX8_read_12 rfl (lv_at hl 1 rfl) ?_
  refine lv_aload_n hx hb dX8_read_13 rfl (lv_at hl 2 rfl) ?_
  refine lv_iconst (v := 1) hx hb dX8_read_14 (by decide) ?_
  refine g_iV (As := [.ref d0, .ref t0, .int 1]) (rest := []) (wr := [(e0, .inr (7, [.ref e1, .int 0]))]) ⟨hx, hb, hml, hown, hts⟩ (cS_readCond l D k B0 ad al e0 d0 t0 z0 z1 z2 z3 z4) (cwV 3 hts gX8_read_X8_readCond rfl rfl rfl (by decide +kernel) ⟨Nat.le_of_ble_eq_true rfl, Nat.le_of_ble_eq_true rfl⟩) gX_ok (gX_pass hE hAB hS hD [0, 1] rfl) hK hP hD hS hA 0 6 rfl rfl rfl [0, 1] [2] rfl rfl (by decide) rfl hl.1 rfl (Nat.le_of_ble_eq_true rfl) dX8_read_15 ⟨Nat.le_of_ble_eq_true rfl, Nat.le_of_ble_eq_true rfl⟩ (fun u3 H locs hP hD hS => ?_)
  have hP : va_P D vwCl [(e0, .inr (7, [.ref e1, .int 0])), (z0, .inr (6, [.ref z1, .ref z2, .ref z3, .ref z4, .int 0, .int 0])), (d0, .inr (5, [.ref e0, .int 200, .int 0, .int 0, .int 0, .long 0, .int 0, .int 0, .int 0, .int 1, .int 0]))] H := hP
  have hD : va_D A [(e0, .inr (7, [.ref e1, .int 0])), (z0, .inr (6, [.ref z1, .ref z2, .ref z3, .ref z4, .int 0, .int 0])), (d0, .inr (5, [.ref e0, .int 200, .int 0, .int 0, .int 0, .long 0, .int 0, .int 0, .int 0, .int 1, .int 0]))] := hD
  refine lv_if_ne (tgt := 23) hx hb dX8_read_18 (by decide) (fun h9 => absurd rfl h9) (fun _ => ?_)
  refine lv_iconst (v := 0) hx hb dX8_read_21 (by decide) ?_
  have hP := hP.sub (ws' := [(z0, .inr (6, [.ref z1, .ref z2, .ref z3, .ref z4, .int 0, .int 0])), (d0, .inr (5, [.ref e0, .int 200, .int 0, .int 0, .int 0, .long 0, .int 0, .int 0, .int 0, .int 1, .int 0])), (e0, .inr (7, [.ref e1, .int 0]))]) [1, 2, 0] rfl
  have hD := hD.sub (ws' := [(z0, .inr (6, [.ref z1, .ref z2, .ref z3, .ref z4, .int 0, .int 0])), (d0, .inr (5, [.ref e0, .int 200, .int 0, .int 0, .int 0, .long 0, .int 0, .int 0, .int 0, .int 1, .int 0])), (e0, .inr (7, [.ref e1, .int 0]))]) [1, 2, 0] (by decide) rfl
  exact g_iret hx hb hr rfl hlocks hK (fun _ => 0) hP hD hS rfl dX8_read_22 ⟨Nat.le_of_ble_eq_true rfl, Nat.le_of_ble_eq_true rfl⟩
set_option maxHeartbeats 4000000 in
set_option maxRecDepth 100000 in
theorem cM_sentence (l : Launch) (D : va_G) (k : Nat → ClassId) (B0 : Nat) (ad : Nat → Nat) (al : Nat) (rm0 : Nat) (e0 : Nat) (d0 : Nat) (v0 : Nat) (t0 : Nat) (n0 : Nat) (s0 : Nat) (z0 : Nat) (g0 : Nat) (h0 : Nat) (o0 : Nat) (j0 : Nat) (j1 : Nat) (j2 : Nat) (j3 : Nat) (e1 : Nat) (z1 : Nat) (z2 : Nat) (z3 : Nat) (z4 : Nat) : g_Ci l yX12_sentence wsX12_sentence ({ frames := 6, cells := 0, slots := 0, locals := 138 }) D k (gX B0 ad al [(rm0, .inr (10, [.ref e0, .ref d0, .ref v0, .ref t0, .ref n0, .ref s0, .ref z0, .ref g0, .ref h0, .ref o0, .ref j0, .ref j1, .ref j2, .ref j3, .int 0, .int (-1), .int (-1), .int (-1)])), (z0, .inr (6, [.ref z1, .ref z2, .ref z3, .ref z4, .int 0, .int 0])), (d0, .inr (5, [.ref e0, .int 0, .int 0, .int 0, .int 0, .long 0, .int 0, .int 0, .int 0, .int 0, .int 0])), (e0, .inr (7, [.ref e1, .int 0]))]) [.ref rm0] [(rm0, .inr (10, [.ref e0, .ref d0, .ref v0, .ref t0, .ref n0, .ref s0, .ref z0, .ref g0, .ref h0, .ref o0, .ref j0, .ref j1, .ref j2, .ref j3, .int 0, .int (-1), .int (-1), .int (-1)])), (z0, .inr (6, [.ref z1, .ref z2, .ref z3, .ref z4, .int 0, .int 0])), (d0, .inr (5, [.ref e0, .int 0, .int 0, .int 0, .int 0, .long 0, .int 0, .int 0, .int 0, .int 0, .int 0])), (e0, .inr (7, [.ref e1, .int 0]))] (-1) (fun u => [(rm0, .inr (10, [.ref e0, .ref d0, .ref v0, .ref t0, .ref n0, .ref s0, .ref z0, .ref g0, .ref h0, .ref o0, .ref j0, .ref j1, .ref j2, .ref j3, .int 1, .int (-1), .int (-1), .int (-1)])), (z0, .inr (6, [.ref z1, .ref z2, .ref z3, .ref z4, .int 0, .int 0])), (d0, .inr (5, [.ref e0, .int 200, .int 0, .int 0, .int 0, .long 0, .int 0, .int 0, .int 0, .int 1, .int 0])), (e0, .inr (7, [.ref e1, .int 0]))]) 0 0 := by
  intro sz
  refine Met.ofW (cc := cX12_sentence) (maxL := 2) (ret := (some .int)) (by decide) rfl ?_
  intro p e s m args below meth c s₁ B hml hv
  obtain ⟨rfl, hsz, hP, hK, hD0, hE⟩ := hv
  have hx := B.exec
  have hb := B.bytes
  have hr := B.returns
  have hts := atoms_spec (ws := wsX12_sentence) B.pre
  have hown : s.vm.findClass RX12 = some m.cls := findClass_of_methodNamed B.named
  have hlocks := B.notSynchronized
  subst hsz
  have hD := hD0.self (sz := s.heap.size)
  generalize hAe : va_A [(rm0, .inr (10, [.ref e0, .ref d0, .ref v0, .ref t0, .ref n0, .ref s0, .ref z0, .ref g0, .ref h0, .ref o0, .ref j0, .ref j1, .ref j2, .ref j3, .int 0, .int (-1), .int (-1), .int (-1)])), (z0, .inr (6, [.ref z1, .ref z2, .ref z3, .ref z4, .int 0, .int 0])), (d0, .inr (5, [.ref e0, .int 0, .int 0, .int 0, .int 0, .long 0, .int 0, .int 0, .int 0, .int 0, .int 0])), (e0, .inr (7, [.ref e1, .int 0]))] s.heap.size = A at hD ⊢
  have hA : ∀ q : Nat, s.heap.size ≤ q → A q := fun q h => by rw [← hAe]; exact Or.inr h
  have hS : va_S A s.heap s.heap [] := va_S.rf
  have hP : va_P D vwCl [(rm0, .inr (10, [.ref e0, .ref d0, .ref v0, .ref t0, .ref n0, .ref s0, .ref z0, .ref g0, .ref h0, .ref o0, .ref j0, .ref j1, .ref j2, .ref j3, .int 0, .int (-1), .int (-1), .int (-1)])), (z0, .inr (6, [.ref z1, .ref z2, .ref z3, .ref z4, .int 0, .int 0])), (d0, .inr (5, [.ref e0, .int 0, .int 0, .int 0, .int 0, .long 0, .int 0, .int 0, .int 0, .int 0, .int 0])), (e0, .inr (7, [.ref e1, .int 0]))] s.heap := hP
  have hl := lv_entry ([.ref rm0]) (n := 2) (Nat.le_of_ble_eq_true rfl)
  rw [lg_entry_eq]
  generalize (lg_sl ([.ref rm0]) ++ List.replicate (2 - (lg_sl ([.ref rm0])).length) Slot.unset).toArray = ls at hl ⊢
  have hl : lv_has ls 2 [(0, .ref rm0)] := hl
  have hAB := gX_AB hE hAe
  have hEn := hE.1.2.1.1.narrow hAB
  refine lv_aload_n hx hb dX12_sentence_0 rfl (lv_at hl 0 rfl) ?_
  refine va_get (D := D) (ci := 10) (v := .ref z0) (C := RX12) (T := TX12) (N := 18) hx hb hts inX12_sentence_X12 hown hK hP 0 rfl rfl 6 (by decide) (hts (.fieldLink RX12 51 "RungMoney" "spareSentence" "LRungMoney$Sentence;") (by decide +kernel)) (fun _ h9 => h9) rfl dX12_sentence_1 ?_
  refine lv_aload_n hx hb dX12_sentence_4 rfl (lv_at hl 0 rfl) ?_
  refine va_get (D := D) (ci := 10) (v := .ref d0) (C := RX12) (T := TX12) (N := 18) hx hb hts inX12_sentence_X12 hown hK hP 0 rfl rfl 1 (by decide) (hts (.fieldLink RX12 21 "RungMoney" "reader" "LRungMoney$Reader;") (by decide +kernel)) (fun _ h9 => h9) rfl dX12_sentence_5 ?_
  refine lv_aload_n hx hb dX12_sentence_8 rfl (lv_at hl 0 rfl) ?_
  refine va_get (D := D) (ci := 10) (v := .ref t0) (C := RX12) (T := TX12) (N := 18) hx hb hts inX12_sentence_X12 hown hK hP 0 rfl rfl 3 (by decide) (hts (.fieldLink RX12 37 "RungMoney" "town" "LRungMoney$Town;") (by decide +kernel)) (fun _ h9 => h9) rfl dX12_sentence_9 ?_
  refine g_iV (As := [.ref d0, .ref t0]) (rest := []) (wr := [(rm0, .inr (10, [.ref e0, .ref d0, .ref v0, .ref t0, .ref n0, .ref s0, .ref z0, .ref g0, .ref h0, .ref o0, .ref j0, .ref j1, .ref j2, .ref j3, .int 0, .int (-1), .int (-1), .int (-1)]))]) ⟨hx, hb, hml, hown, hts⟩ (cS_read l D k B0 ad al e0 d0 t0 z0 e1 z1 z2 z3 z4) (cwV 2 hts gX12_sentence_X8_read rfl rfl rfl (by decide +kernel) ⟨Nat.le_of_ble_eq_true rfl, Nat.le_of_ble_eq_true rfl⟩) gX_ok (gX_pass hE hAB hS hD [1, 2, 3] rfl) hK hP hD hS hA 1 6 rfl rfl rfl [1, 2, 3] [0] rfl rfl (by decide) rfl hl.1 rfl (Nat.le_of_ble_eq_true rfl) dX12_sentence_12 ⟨Nat.le_of_ble_eq_true rfl, Nat.le_of_ble_eq_true rfl⟩ (fun u1 H locs hP hD hS => ?_)
  have hP : va_P D vwCl [(rm0, .inr (10, [.ref e0, .ref d0, .ref v0, .ref t0, .ref n0, .ref s0, .ref z0, .ref g0, .ref h0, .ref o0, .ref j0, .ref j1, .ref j2, .ref j3, .int 0, .int (-1), .int (-1), .int (-1)])), (z0, .inr (6, [.ref z1, .ref z2, .ref z3, .ref z4, .int 0, .int 0])), (d0, .inr (5, [.ref e0, .int 200, .int 0, .int 0, .int 0, .long 0, .int 0, .int 0, .int 0, .int 1, .int 0])), (e0, .inr (7, [.ref e1, .int 0]))] H := hP
  have hD : va_D A [(rm0, .inr (10, [.ref e0, .ref d0, .ref v0, .ref t0, .ref n0, .ref s0, .ref z0, .ref g0, .ref h0, .ref o0, .ref j0, .ref j1, .ref j2, .ref j3, .int 0, .int (-1), .int (-1), .int (-1)])), (z0, .inr (6, [.ref z1, .ref z2, .ref z3, .ref z4, .int 0, .int 0])), (d0, .inr (5, [.ref e0, .int 200, .int 0, .int 0, .int 0, .long 0, .int 0, .int 0, .int 0, .int 1, .int 0])), (e0, .inr (7, [.ref e1, .int 0]))] := hD
  refine lv_istore_n (lv' := [(1, .int 0), (0, .ref rm0)]) hx hb dX12_sentence_15 rfl hl (by decide) rfl (fun ls hl => ?_)
  refine lv_aload_n hx hb dX12_sentence_16 rfl (lv_at hl 1 rfl) ?_
  refine va_get (D := D) (ci := 10) (v := .ref e0) (C := RX12) (T := TX12) (N := 18) hx hb hts inX12_sentence_X12 hown hK hP 0 rfl rfl 0 (by decide) (hts (.fieldLink RX12 10 "RungMoney" "tape" "LRungMoney$Tape;") (by decide +kernel)) (fun _ h9 => h9) rfl dX12_sentence_17 ?_
  refine lv_iconst (v := 0) hx hb dX12_sentence_20 (by decide) ?_
  refine va_put (D := D) (ci := 7) (v := .int 0) (ty := .int) (C := RX9) (T := TX9) (N := 2) hx hb hts inX12_sentence_X9 tyX9 tyX9_ok nmX9 hown hK hP hD hS 3 rfl rfl 1 (by decide) (hts (.fieldLink RX12 115 "RungMoney$Tape" "size" "I") (by decide +kernel)) (fun _ h9 => h9) rfl (by decide +kernel) rfl rfl (Nat.le_of_ble_eq_true rfl) dX12_sentence_21 (fun H locs hP hD hS => ?_)
  have hP : va_P D vwCl [(rm0, .inr (10, [.ref e0, .ref d0, .ref v0, .ref t0, .ref n0, .ref s0, .ref z0, .ref g0, .ref h0, .ref o0, .ref j0, .ref j1, .ref j2, .ref j3, .int 0, .int (-1), .int (-1), .int (-1)])), (z0, .inr (6, [.ref z1, .ref z2, .ref z3, .ref z4, .int 0, .int 0])), (d0, .inr (5, [.ref e0, .int 200, .int 0, .int 0, .int 0, .long 0, .int 0, .int 0, .int 0, .int 1, .int 0])), (e0, .inr (7, [.ref e1, .int 0]))] H := hP
  have hD : va_D A [(rm0, .inr (10, [.ref e0, .ref d0, .ref v0, .ref t0, .ref n0, .ref s0, .ref z0, .ref g0, .ref h0, .ref o0, .ref j0, .ref j1, .ref j2, .ref j3, .int 0, .int (-1), .int (-1), .int (-1)])), (z0, .inr (6, [.ref z1, .ref z2, .ref z3, .ref z4, .int 0, .int 0])), (d0, .inr (5, [.ref e0, .int 200, .int 0, .int 0, .int 0, .long 0, .int 0, .int 0, .int 0, .int 1, .int 0])), (e0, .inr (7, [.ref e1, .int 0]))] := hD
  refine lv_aload_n hx hb dX12_sentence_24 rfl (lv_at hl 1 rfl) ?_
  refine lv_aload_n hx hb dX12_sentence_25 rfl (lv_at hl 1 rfl) ?_
  refine va_get (D := D) (ci := 10) (v := .ref d0) (C := RX12) (T := TX12) (N := 18) hx hb hts inX12_sentence_X12 hown hK hP 0 rfl rfl 1 (by decide) (hts (.fieldLink RX12 21 "RungMoney" "reader" "LRungMoney$Reader;") (by decide +kernel)) (fun _ h9 => h9) rfl dX12_sentence_26 ?_
  refine va_get (D := D) (ci := 5) (v := .int 1) (C := RX7) (T := TX7) (N := 11) hx hb hts inX12_sentence_X7 hown hK hP 2 rfl rfl 9 (by decide) (hts (.fieldLink RX12 122 "RungMoney$Reader" "fault" "I") (by decide +kernel)) (fun _ h9 => h9) rfl dX12_sentence_29 ?_
  refine va_put (D := D) (ci := 10) (v := .int 1) (ty := .int) (C := RX12) (T := TX12) (N := 18) hx hb hts inX12_sentence_X12 tyX12 tyX12_ok nmX12 hown hK hP hD hS 0 rfl rfl 14 (by decide) (hts (.fieldLink RX12 125 "RungMoney" "faultKind" "I") (by decide +kernel)) (fun _ h9 => h9) rfl (by decide +kernel) rfl rfl (Nat.le_of_ble_eq_true rfl) dX12_sentence_32 (fun H locs hP hD hS => ?_)
  have hP : va_P D vwCl [(rm0, .inr (10, [.ref e0, .ref d0, .ref v0, .ref t0, .ref n0, .ref s0, .ref z0, .ref g0, .ref h0, .ref o0, .ref j0, .ref j1, .ref j2, .ref j3, .int 1, .int (-1), .int (-1), .int (-1)])), (z0, .inr (6, [.ref z1, .ref z2, .ref z3, .ref z4, .int 0, .int 0])), (d0, .inr (5, [.ref e0, .int 200, .int 0, .int 0, .int 0, .long 0, .int 0, .int 0, .int 0, .int 1, .int 0])), (e0, .inr (7, [.ref e1, .int 0]))] H := hP
  have hD : va_D A [(rm0, .inr (10, [.ref e0, .ref d0, .ref v0, .ref t0, .ref n0, .ref s0, .ref z0, .ref g0, .ref h0, .ref o0, .ref j0, .ref j1, .ref j2, .ref j3, .int 1, .int (-1), .int (-1), .int (-1)])), (z0, .inr (6, [.ref z1, .ref z2, .ref z3, .ref z4, .int 0, .int 0])), (d0, .inr (5, [.ref e0, .int 200, .int 0, .int 0, .int 0, .long 0, .int 0, .int 0, .int 0, .int 1, .int 0])), (e0, .inr (7, [.ref e1, .int 0]))] := hD
  refine lv_iload_n hx hb dX12_sentence_35 rfl (lv_at hl 0 rfl) ?_
  refine lv_if_ne (tgt := 49) hx hb dX12_sentence_36 (by decide) (fun h9 => absurd rfl h9) (fun _ => ?_)
  refine lv_iconst (v := (-1)) hx hb dX12_sentence_39 (by decide) ?_
  refine lv_aload_n hx hb dX12_sentence_40 rfl (lv_at hl 1 rfl) ?_
  refine va_get (D := D) (ci := 10) (v := .ref d0) (C := RX12) (T := TX12) (N := 18) hx hb hts inX12_sentence_X12 hown hK hP 0 rfl rfl 1 (by decide) (hts (.fieldLink RX12 21 "RungMoney" "reader" "LRungMoney$Reader;") (by decide +kernel)) (fun _ h9 => h9) rfl dX12_sentence_41 ?_
  refine va_get (D := D) (ci := 5) (v := .int 0) (C := RX7) (T := TX7) (N := 11) hx hb hts inX12_sentence_X7 hown hK hP 2 rfl rfl 10 (by decide) (hts (.fieldLink RX12 128 "RungMoney$Reader" "place" "I") (by decide +kernel)) (fun _ h9 => h9) rfl dX12_sentence_44 ?_
  refine lv_isub hx hb dX12_sentence_47 ?_
  refine lv_topi (fun x2 ex2 => ?_)
  obtain rfl : x2 = (-1) := ex2.trans (by decide)
  have hP := hP.sub (ws' := [(rm0, .inr (10, [.ref e0, .ref d0, .ref v0, .ref t0, .ref n0, .ref s0, .ref z0, .ref g0, .ref h0, .ref o0, .ref j0, .ref j1, .ref j2, .ref j3, .int 1, .int (-1), .int (-1), .int (-1)])), (z0, .inr (6, [.ref z1, .ref z2, .ref z3, .ref z4, .int 0, .int 0])), (d0, .inr (5, [.ref e0, .int 200, .int 0, .int 0, .int 0, .long 0, .int 0, .int 0, .int 0, .int 1, .int 0])), (e0, .inr (7, [.ref e1, .int 0]))]) [0, 1, 2, 3] rfl
  have hD := hD.sub (ws' := [(rm0, .inr (10, [.ref e0, .ref d0, .ref v0, .ref t0, .ref n0, .ref s0, .ref z0, .ref g0, .ref h0, .ref o0, .ref j0, .ref j1, .ref j2, .ref j3, .int 1, .int (-1), .int (-1), .int (-1)])), (z0, .inr (6, [.ref z1, .ref z2, .ref z3, .ref z4, .int 0, .int 0])), (d0, .inr (5, [.ref e0, .int 200, .int 0, .int 0, .int 0, .long 0, .int 0, .int 0, .int 0, .int 1, .int 0])), (e0, .inr (7, [.ref e1, .int 0]))]) [0, 1, 2, 3] (by decide) rfl
  exact g_iret hx hb hr rfl hlocks hK (fun _ => 0) hP hD hS rfl dX12_sentence_48 ⟨Nat.le_of_ble_eq_true rfl, Nat.le_of_ble_eq_true rfl⟩
