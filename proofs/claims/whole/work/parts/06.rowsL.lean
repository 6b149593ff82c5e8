theorem dJ6_bitCount_0f7a4_0 : decode cJ6_bitCount_0f7a4 0 = .ok (.iload_n 0, 1) := by decide +kernel
theorem dJ6_bitCount_0f7a4_1 : decode cJ6_bitCount_0f7a4 1 = .ok (.iload_n 0, 1) := by decide +kernel
theorem dJ6_bitCount_0f7a4_2 : decode cJ6_bitCount_0f7a4 2 = .ok (.iconst 1, 1) := by decide +kernel
theorem dJ6_bitCount_0f7a4_3 : decode cJ6_bitCount_0f7a4 3 = .ok (.iushr, 1) := by decide +kernel
theorem dJ6_bitCount_0f7a4_4 : decode cJ6_bitCount_0f7a4 4 = .ok (.ldc_w 265, 3) := by decide +kernel
theorem dJ6_bitCount_0f7a4_7 : decode cJ6_bitCount_0f7a4 7 = .ok (.iand, 1) := by decide +kernel
theorem dJ6_bitCount_0f7a4_8 : decode cJ6_bitCount_0f7a4 8 = .ok (.isub, 1) := by decide +kernel
theorem dJ6_bitCount_0f7a4_9 : decode cJ6_bitCount_0f7a4 9 = .ok (.istore_n 0, 1) := by decide +kernel
theorem dJ6_bitCount_0f7a4_10 : decode cJ6_bitCount_0f7a4 10 = .ok (.iload_n 0, 1) := by decide +kernel
theorem dJ6_bitCount_0f7a4_11 : decode cJ6_bitCount_0f7a4 11 = .ok (.ldc_w 266, 3) := by decide +kernel
theorem dJ6_bitCount_0f7a4_14 : decode cJ6_bitCount_0f7a4 14 = .ok (.iand, 1) := by decide +kernel
theorem dJ6_bitCount_0f7a4_15 : decode cJ6_bitCount_0f7a4 15 = .ok (.iload_n 0, 1) := by decide +kernel
theorem dJ6_bitCount_0f7a4_16 : decode cJ6_bitCount_0f7a4 16 = .ok (.iconst 2, 1) := by decide +kernel
theorem dJ6_bitCount_0f7a4_17 : decode cJ6_bitCount_0f7a4 17 = .ok (.iushr, 1) := by decide +kernel
theorem dJ6_bitCount_0f7a4_18 : decode cJ6_bitCount_0f7a4 18 = .ok (.ldc_w 266, 3) := by decide +kernel
theorem dJ6_bitCount_0f7a4_21 : decode cJ6_bitCount_0f7a4 21 = .ok (.iand, 1) := by decide +kernel
theorem dJ6_bitCount_0f7a4_22 : decode cJ6_bitCount_0f7a4 22 = .ok (.iadd, 1) := by decide +kernel
theorem dJ6_bitCount_0f7a4_23 : decode cJ6_bitCount_0f7a4 23 = .ok (.istore_n 0, 1) := by decide +kernel
theorem dJ6_bitCount_0f7a4_24 : decode cJ6_bitCount_0f7a4 24 = .ok (.iload_n 0, 1) := by decide +kernel
theorem dJ6_bitCount_0f7a4_25 : decode cJ6_bitCount_0f7a4 25 = .ok (.iload_n 0, 1) := by decide +kernel
theorem dJ6_bitCount_0f7a4_26 : decode cJ6_bitCount_0f7a4 26 = .ok (.iconst 4, 1) := by decide +kernel
theorem dJ6_bitCount_0f7a4_27 : decode cJ6_bitCount_0f7a4 27 = .ok (.iushr, 1) := by decide +kernel
theorem dJ6_bitCount_0f7a4_28 : decode cJ6_bitCount_0f7a4 28 = .ok (.iadd, 1) := by decide +kernel
theorem dJ6_bitCount_0f7a4_29 : decode cJ6_bitCount_0f7a4 29 = .ok (.ldc_w 267, 3) := by decide +kernel
theorem dJ6_bitCount_0f7a4_32 : decode cJ6_bitCount_0f7a4 32 = .ok (.iand, 1) := by decide +kernel
theorem dJ6_bitCount_0f7a4_33 : decode cJ6_bitCount_0f7a4 33 = .ok (.istore_n 0, 1) := by decide +kernel
theorem dJ6_bitCount_0f7a4_34 : decode cJ6_bitCount_0f7a4 34 = .ok (.iload_n 0, 1) := by decide +kernel
theorem dJ6_bitCount_0f7a4_35 : decode cJ6_bitCount_0f7a4 35 = .ok (.iload_n 0, 1) := by decide +kernel
theorem dJ6_bitCount_0f7a4_36 : decode cJ6_bitCount_0f7a4 36 = .ok (.bipush 8, 2) := by decide +kernel
theorem dJ6_bitCount_0f7a4_38 : decode cJ6_bitCount_0f7a4 38 = .ok (.iushr, 1) := by decide +kernel
theorem dJ6_bitCount_0f7a4_39 : decode cJ6_bitCount_0f7a4 39 = .ok (.iadd, 1) := by decide +kernel
theorem dJ6_bitCount_0f7a4_40 : decode cJ6_bitCount_0f7a4 40 = .ok (.istore_n 0, 1) := by decide +kernel
theorem dJ6_bitCount_0f7a4_41 : decode cJ6_bitCount_0f7a4 41 = .ok (.iload_n 0, 1) := by decide +kernel
theorem dJ6_bitCount_0f7a4_42 : decode cJ6_bitCount_0f7a4 42 = .ok (.iload_n 0, 1) := by decide +kernel
theorem dJ6_bitCount_0f7a4_43 : decode cJ6_bitCount_0f7a4 43 = .ok (.bipush 16, 2) := by decide +kernel
theorem dJ6_bitCount_0f7a4_45 : decode cJ6_bitCount_0f7a4 45 = .ok (.iushr, 1) := by decide +kernel
theorem dJ6_bitCount_0f7a4_46 : decode cJ6_bitCount_0f7a4 46 = .ok (.iadd, 1) := by decide +kernel
theorem dJ6_bitCount_0f7a4_47 : decode cJ6_bitCount_0f7a4 47 = .ok (.istore_n 0, 1) := by decide +kernel
theorem dJ6_bitCount_0f7a4_48 : decode cJ6_bitCount_0f7a4 48 = .ok (.iload_n 0, 1) := by decide +kernel
theorem dJ6_bitCount_0f7a4_49 : decode cJ6_bitCount_0f7a4 49 = .ok (.bipush 63, 2) := by decide +kernel
theorem dJ6_bitCount_0f7a4_51 : decode cJ6_bitCount_0f7a4 51 = .ok (.iand, 1) := by decide +kernel
theorem dJ6_bitCount_0f7a4_52 : decode cJ6_bitCount_0f7a4 52 = .ok (.ireturn, 1) := by decide +kernel
theorem dJ9_max_7cf53_0 : decode cJ9_max_7cf53 0 = .ok (.iload_n 0, 1) := by decide +kernel
theorem dJ9_max_7cf53_1 : decode cJ9_max_7cf53 1 = .ok (.iload_n 1, 1) := by decide +kernel
theorem dJ9_max_7cf53_2 : decode cJ9_max_7cf53 2 = .ok (.if_icmp .lt 7, 3) := by decide +kernel
theorem dJ9_max_7cf53_5 : decode cJ9_max_7cf53 5 = .ok (.iload_n 0, 1) := by decide +kernel
theorem dJ9_max_7cf53_6 : decode cJ9_max_7cf53 6 = .ok (.goto 4, 3) := by decide +kernel
theorem dJ9_max_7cf53_9 : decode cJ9_max_7cf53 9 = .ok (.iload_n 1, 1) := by decide +kernel
theorem dJ9_max_7cf53_10 : decode cJ9_max_7cf53 10 = .ok (.ireturn, 1) := by decide +kernel
theorem dJ9_min_7cf53_0 : decode cJ9_min_7cf53 0 = .ok (.iload_n 0, 1) := by decide +kernel
theorem dJ9_min_7cf53_1 : decode cJ9_min_7cf53 1 = .ok (.iload_n 1, 1) := by decide +kernel
theorem dJ9_min_7cf53_2 : decode cJ9_min_7cf53 2 = .ok (.if_icmp .gt 7, 3) := by decide +kernel
theorem dJ9_min_7cf53_5 : decode cJ9_min_7cf53 5 = .ok (.iload_n 0, 1) := by decide +kernel
theorem dJ9_min_7cf53_6 : decode cJ9_min_7cf53 6 = .ok (.goto 4, 3) := by decide +kernel
theorem dJ9_min_7cf53_9 : decode cJ9_min_7cf53 9 = .ok (.iload_n 1, 1) := by decide +kernel
theorem dJ9_min_7cf53_10 : decode cJ9_min_7cf53 10 = .ok (.ireturn, 1) := by decide +kernel
set_option maxRecDepth 20000 in
theorem ggL_addThing_X0_addThing : GoodIn wsL_addThing wsX0_addThing := goodIn_ca (goodIn_r _ [6, 7, 8, 9, 10, 11, 12, 13, 14, 15, 16, 17, 18, 19] (by decide +kernel) (by decide +kernel)) (goodIn_sub (fun _ h => List.mem_cons_of_mem _ (List.mem_append_right _ h)) (by decide +kernel))
set_option maxRecDepth 20000 in
theorem gL_addThing_X0_addThing : GoodIn wsL_addThing (wsV RL 7 RX0 yX0_addThing wsX0_addThing) := goodIn_app (goodIn_of _ (by decide +kernel)) ggL_addThing_X0_addThing
theorem dL_addThing_0 : decode cL_addThing 0 = .ok (.aload_n 1, 1) := by decide +kernel
theorem dL_addThing_1 : decode cL_addThing 1 = .ok (.iconst 0, 1) := by decide +kernel
theorem dL_addThing_2 : decode cL_addThing 2 = .ok (.aload_n 0, 1) := by decide +kernel
theorem dL_addThing_3 : decode cL_addThing 3 = .ok (.invokevirtual 7, 3) := by decide +kernel
theorem dL_addThing_6 : decode cL_addThing 6 = .ok (.i2l, 1) := by decide +kernel
theorem dL_addThing_7 : decode cL_addThing 7 = .ok (.lastore, 1) := by decide +kernel
theorem dL_addThing_8 : decode cL_addThing 8 = .ok (.goto 6, 3) := by decide +kernel
theorem dL_addThing_11 : decode cL_addThing 11 = .ok (.astore_n 2, 1) := by decide +kernel
theorem dL_addThing_12 : decode cL_addThing 12 = .ok (.iconst 1, 1) := by decide +kernel
theorem dL_addThing_13 : decode cL_addThing 13 = .ok (.ireturn, 1) := by decide +kernel
theorem dL_addThing_14 : decode cL_addThing 14 = .ok (.iconst 0, 1) := by decide +kernel
theorem dL_addThing_15 : decode cL_addThing 15 = .ok (.ireturn, 1) := by decide +kernel
set_option maxRecDepth 20000 in
theorem ggL_addAstronomer_X0_addAstronomer : GoodIn wsL_addAstronomer wsX0_addAstronomer := goodIn_ca (goodIn_ca (goodIn_r _ [7, 8, 9, 10, 11, 12, 13, 14, 15, 16, 6, 17, 18, 19, 20, 21, 22, 23, 24, 25, 26, 27, 28, 29] (by decide +kernel) (by decide +kernel)) (goodIn_sub (fun _ h => List.mem_cons_of_mem _ (List.mem_append_left _ (List.mem_append_right _ h))) (by decide +kernel))) (goodIn_sub (fun _ h => List.mem_cons_of_mem _ (List.mem_append_right _ h)) (by decide +kernel))
set_option maxRecDepth 20000 in
theorem gL_addAstronomer_X0_addAstronomer : GoodIn wsL_addAstronomer (wsV RL 15 RX0 yX0_addAstronomer wsX0_addAstronomer) := goodIn_app (goodIn_of _ (by decide +kernel)) ggL_addAstronomer_X0_addAstronomer
theorem dL_addAstronomer_0 : decode cL_addAstronomer 0 = .ok (.aload_n 2, 1) := by decide +kernel
theorem dL_addAstronomer_1 : decode cL_addAstronomer 1 = .ok (.iconst 0, 1) := by decide +kernel
theorem dL_addAstronomer_2 : decode cL_addAstronomer 2 = .ok (.aload_n 0, 1) := by decide +kernel
theorem dL_addAstronomer_3 : decode cL_addAstronomer 3 = .ok (.iload_n 1, 1) := by decide +kernel
theorem dL_addAstronomer_4 : decode cL_addAstronomer 4 = .ok (.invokevirtual 15, 3) := by decide +kernel
theorem dL_addAstronomer_7 : decode cL_addAstronomer 7 = .ok (.i2l, 1) := by decide +kernel
theorem dL_addAstronomer_8 : decode cL_addAstronomer 8 = .ok (.lastore, 1) := by decide +kernel
theorem dL_addAstronomer_9 : decode cL_addAstronomer 9 = .ok (.goto 9, 3) := by decide +kernel
theorem dL_addAstronomer_12 : decode cL_addAstronomer 12 = .ok (.astore_n 3, 1) := by decide +kernel
theorem dL_addAstronomer_13 : decode cL_addAstronomer 13 = .ok (.iconst 1, 1) := by decide +kernel
theorem dL_addAstronomer_14 : decode cL_addAstronomer 14 = .ok (.ireturn, 1) := by decide +kernel
theorem dL_addAstronomer_15 : decode cL_addAstronomer 15 = .ok (.astore_n 3, 1) := by decide +kernel
theorem dL_addAstronomer_16 : decode cL_addAstronomer 16 = .ok (.iconst 2, 1) := by decide +kernel
theorem dL_addAstronomer_17 : decode cL_addAstronomer 17 = .ok (.ireturn, 1) := by decide +kernel
theorem dL_addAstronomer_18 : decode cL_addAstronomer 18 = .ok (.iconst 0, 1) := by decide +kernel
theorem dL_addAstronomer_19 : decode cL_addAstronomer 19 = .ok (.ireturn, 1) := by decide +kernel
set_option maxRecDepth 20000 in
theorem ggL_blame_X0_blame : GoodIn wsL_blame wsX0_blame := goodIn_ca (goodIn_ca (goodIn_r _ [7, 8, 9, 10, 11, 6, 12, 13, 14, 15, 16, 17, 18, 19, 20, 21, 22, 23, 24, 25, 26, 27, 28, 29, 30, 31, 32, 33, 34, 35, 36, 37, 38, 39, 40, 41, 42] (by decide +kernel) (by decide +kernel)) (goodIn_sub (fun _ h => List.mem_cons_of_mem _ (List.mem_append_left _ (List.mem_append_right _ h))) (by decide +kernel))) (goodIn_sub (fun _ h => List.mem_cons_of_mem _ (List.mem_append_right _ h)) (by decide +kernel))
set_option maxRecDepth 20000 in
theorem gL_blame_X0_blame : GoodIn wsL_blame (wsV RL 21 RX0 yX0_blame wsX0_blame) := goodIn_app (goodIn_of _ (by decide +kernel)) ggL_blame_X0_blame
theorem dL_blame_0 : decode cL_blame 0 = .ok (.aload_n 3, 1) := by decide +kernel
theorem dL_blame_1 : decode cL_blame 1 = .ok (.iconst 0, 1) := by decide +kernel
theorem dL_blame_2 : decode cL_blame 2 = .ok (.aload_n 0, 1) := by decide +kernel
theorem dL_blame_3 : decode cL_blame 3 = .ok (.iload_n 1, 1) := by decide +kernel
theorem dL_blame_4 : decode cL_blame 4 = .ok (.iload_n 2, 1) := by decide +kernel
theorem dL_blame_5 : decode cL_blame 5 = .ok (.invokevirtual 21, 3) := by decide +kernel
theorem dL_blame_8 : decode cL_blame 8 = .ok (.i2l, 1) := by decide +kernel
theorem dL_blame_9 : decode cL_blame 9 = .ok (.lastore, 1) := by decide +kernel
theorem dL_blame_10 : decode cL_blame 10 = .ok (.goto 11, 3) := by decide +kernel
theorem dL_blame_13 : decode cL_blame 13 = .ok (.astore 4, 2) := by decide +kernel
theorem dL_blame_15 : decode cL_blame 15 = .ok (.iconst 1, 1) := by decide +kernel
theorem dL_blame_16 : decode cL_blame 16 = .ok (.ireturn, 1) := by decide +kernel
theorem dL_blame_17 : decode cL_blame 17 = .ok (.astore 4, 2) := by decide +kernel
theorem dL_blame_19 : decode cL_blame 19 = .ok (.iconst 2, 1) := by decide +kernel
theorem dL_blame_20 : decode cL_blame 20 = .ok (.ireturn, 1) := by decide +kernel
theorem dL_blame_21 : decode cL_blame 21 = .ok (.iconst 0, 1) := by decide +kernel
theorem dL_blame_22 : decode cL_blame 22 = .ok (.ireturn, 1) := by decide +kernel
set_option maxRecDepth 20000 in
theorem ggL_writeDown_X0_writeDown : GoodIn wsL_writeDown wsX0_writeDown := goodIn_ca (goodIn_ca (goodIn_r _ [7, 8, 9, 10, 11, 12, 13, 14, 6, 15, 16, 17, 18, 19, 20, 21, 22, 23, 24, 25, 26, 27, 28, 29, 30, 31, 32, 33, 34, 35, 36, 37, 38, 39, 40, 41, 42, 43, 44, 45, 46, 47, 48, 49, 50, 51, 52, 53, 54, 55, 56, 57, 58, 59, 60, 61, 62, 63, 64, 65, 66, 67, 68, 69, 70, 71, 72, 73] (by decide +kernel) (by decide +kernel)) (goodIn_sub (fun _ h => List.mem_cons_of_mem _ (List.mem_append_left _ (List.mem_append_right _ h))) (by decide +kernel))) (goodIn_sub (fun _ h => List.mem_cons_of_mem _ (List.mem_append_right _ h)) (by decide +kernel))
set_option maxRecDepth 20000 in
theorem gL_writeDown_X0_writeDown : GoodIn wsL_writeDown (wsV RL 27 RX0 yX0_writeDown wsX0_writeDown) := goodIn_app (goodIn_of _ (by decide +kernel)) ggL_writeDown_X0_writeDown
theorem dL_writeDown_0 : decode cL_writeDown 0 = .ok (.aload_n 3, 1) := by decide +kernel
theorem dL_writeDown_1 : decode cL_writeDown 1 = .ok (.iconst 0, 1) := by decide +kernel
theorem dL_writeDown_2 : decode cL_writeDown 2 = .ok (.aload_n 0, 1) := by decide +kernel
theorem dL_writeDown_3 : decode cL_writeDown 3 = .ok (.iload_n 1, 1) := by decide +kernel
theorem dL_writeDown_4 : decode cL_writeDown 4 = .ok (.iload_n 2, 1) := by decide +kernel
theorem dL_writeDown_5 : decode cL_writeDown 5 = .ok (.invokevirtual 27, 3) := by decide +kernel
theorem dL_writeDown_8 : decode cL_writeDown 8 = .ok (.i2l, 1) := by decide +kernel
theorem dL_writeDown_9 : decode cL_writeDown 9 = .ok (.lastore, 1) := by decide +kernel
theorem dL_writeDown_10 : decode cL_writeDown 10 = .ok (.goto 11, 3) := by decide +kernel
theorem dL_writeDown_13 : decode cL_writeDown 13 = .ok (.astore 4, 2) := by decide +kernel
theorem dL_writeDown_15 : decode cL_writeDown 15 = .ok (.iconst 1, 1) := by decide +kernel
theorem dL_writeDown_16 : decode cL_writeDown 16 = .ok (.ireturn, 1) := by decide +kernel
theorem dL_writeDown_17 : decode cL_writeDown 17 = .ok (.astore 4, 2) := by decide +kernel
theorem dL_writeDown_19 : decode cL_writeDown 19 = .ok (.iconst 2, 1) := by decide +kernel
theorem dL_writeDown_20 : decode cL_writeDown 20 = .ok (.ireturn, 1) := by decide +kernel
theorem dL_writeDown_21 : decode cL_writeDown 21 = .ok (.iconst 0, 1) := by decide +kernel
theorem dL_writeDown_22 : decode cL_writeDown 22 = .ok (.ireturn, 1) := by decide +kernel
set_option maxRecDepth 20000 in
theorem ggL_strike_X0_strike : GoodIn wsL_strike wsX0_strike := goodIn_ca (goodIn_r _ [6, 7, 8, 9, 10, 11, 12, 5, 13, 14, 15, 16, 17, 18, 19, 20, 21, 22, 23, 24, 25, 26, 27, 28, 29, 30, 31, 32, 33] (by decide +kernel) (by decide +kernel)) (goodIn_sub (fun _ h => List.mem_cons_of_mem _ (List.mem_append_right _ h)) (by decide +kernel))
set_option maxRecDepth 20000 in
theorem gL_strike_X0_strike : GoodIn wsL_strike (wsV RL 31 RX0 yX0_strike wsX0_strike) := goodIn_app (goodIn_of _ (by decide +kernel)) ggL_strike_X0_strike
theorem dL_strike_0 : decode cL_strike 0 = .ok (.aload_n 2, 1) := by decide +kernel
theorem dL_strike_1 : decode cL_strike 1 = .ok (.iconst 0, 1) := by decide +kernel
theorem dL_strike_2 : decode cL_strike 2 = .ok (.aload_n 0, 1) := by decide +kernel
theorem dL_strike_3 : decode cL_strike 3 = .ok (.iload_n 1, 1) := by decide +kernel
theorem dL_strike_4 : decode cL_strike 4 = .ok (.invokevirtual 31, 3) := by decide +kernel
theorem dL_strike_7 : decode cL_strike 7 = .ok (.i2l, 1) := by decide +kernel
theorem dL_strike_8 : decode cL_strike 8 = .ok (.lastore, 1) := by decide +kernel
theorem dL_strike_9 : decode cL_strike 9 = .ok (.goto 6, 3) := by decide +kernel
theorem dL_strike_12 : decode cL_strike 12 = .ok (.astore_n 3, 1) := by decide +kernel
theorem dL_strike_13 : decode cL_strike 13 = .ok (.iconst 1, 1) := by decide +kernel
theorem dL_strike_14 : decode cL_strike 14 = .ok (.ireturn, 1) := by decide +kernel
theorem dL_strike_15 : decode cL_strike 15 = .ok (.iconst 0, 1) := by decide +kernel
theorem dL_strike_16 : decode cL_strike 16 = .ok (.ireturn, 1) := by decide +kernel
set_option maxRecDepth 20000 in
theorem ggL_nightsWith_X0_nightsWith : GoodIn wsL_nightsWith wsX0_nightsWith := goodIn_ca (goodIn_r _ [6, 7, 8, 9, 10, 11, 5, 12, 13, 14, 15, 16, 17, 18, 19, 20, 21, 22, 23, 24, 25, 26, 27, 28, 29, 30, 31] (by decide +kernel) (by decide +kernel)) (goodIn_sub (fun _ h => List.mem_cons_of_mem _ (List.mem_append_right _ h)) (by decide +kernel))
set_option maxRecDepth 20000 in
theorem gL_nightsWith_X0_nightsWith : GoodIn wsL_nightsWith (wsV RL 34 RX0 yX0_nightsWith wsX0_nightsWith) := goodIn_app (goodIn_of _ (by decide +kernel)) ggL_nightsWith_X0_nightsWith
theorem dL_nightsWith_0 : decode cL_nightsWith 0 = .ok (.aload_n 2, 1) := by decide +kernel
theorem dL_nightsWith_1 : decode cL_nightsWith 1 = .ok (.iconst 0, 1) := by decide +kernel
theorem dL_nightsWith_2 : decode cL_nightsWith 2 = .ok (.aload_n 0, 1) := by decide +kernel
theorem dL_nightsWith_3 : decode cL_nightsWith 3 = .ok (.iload_n 1, 1) := by decide +kernel
theorem dL_nightsWith_4 : decode cL_nightsWith 4 = .ok (.invokevirtual 34, 3) := by decide +kernel
theorem dL_nightsWith_7 : decode cL_nightsWith 7 = .ok (.i2l, 1) := by decide +kernel
theorem dL_nightsWith_8 : decode cL_nightsWith 8 = .ok (.lastore, 1) := by decide +kernel
theorem dL_nightsWith_9 : decode cL_nightsWith 9 = .ok (.goto 6, 3) := by decide +kernel
theorem dL_nightsWith_12 : decode cL_nightsWith 12 = .ok (.astore_n 3, 1) := by decide +kernel
theorem dL_nightsWith_13 : decode cL_nightsWith 13 = .ok (.iconst 1, 1) := by decide +kernel
theorem dL_nightsWith_14 : decode cL_nightsWith 14 = .ok (.ireturn, 1) := by decide +kernel
theorem dL_nightsWith_15 : decode cL_nightsWith 15 = .ok (.iconst 0, 1) := by decide +kernel
theorem dL_nightsWith_16 : decode cL_nightsWith 16 = .ok (.ireturn, 1) := by decide +kernel
set_option maxRecDepth 20000 in
theorem ggL_smudgesWith_X0_smudgesWith : GoodIn wsL_smudgesWith wsX0_smudgesWith := goodIn_ca (goodIn_r _ [6, 7, 8, 9, 10, 11, 12, 5, 13, 14, 15, 16, 17, 18, 19, 20, 21, 22, 23, 24, 25, 26, 27, 28, 29, 30, 31, 32] (by decide +kernel) (by decide +kernel)) (goodIn_sub (fun _ h => List.mem_cons_of_mem _ (List.mem_append_right _ h)) (by decide +kernel))
set_option maxRecDepth 20000 in
theorem gL_smudgesWith_X0_smudgesWith : GoodIn wsL_smudgesWith (wsV RL 37 RX0 yX0_smudgesWith wsX0_smudgesWith) := goodIn_app (goodIn_of _ (by decide +kernel)) ggL_smudgesWith_X0_smudgesWith
theorem dL_smudgesWith_0 : decode cL_smudgesWith 0 = .ok (.aload_n 2, 1) := by decide +kernel
theorem dL_smudgesWith_1 : decode cL_smudgesWith 1 = .ok (.iconst 0, 1) := by decide +kernel
theorem dL_smudgesWith_2 : decode cL_smudgesWith 2 = .ok (.aload_n 0, 1) := by decide +kernel
theorem dL_smudgesWith_3 : decode cL_smudgesWith 3 = .ok (.iload_n 1, 1) := by decide +kernel
theorem dL_smudgesWith_4 : decode cL_smudgesWith 4 = .ok (.invokevirtual 37, 3) := by decide +kernel
theorem dL_smudgesWith_7 : decode cL_smudgesWith 7 = .ok (.i2l, 1) := by decide +kernel
theorem dL_smudgesWith_8 : decode cL_smudgesWith 8 = .ok (.lastore, 1) := by decide +kernel
theorem dL_smudgesWith_9 : decode cL_smudgesWith 9 = .ok (.goto 6, 3) := by decide +kernel
theorem dL_smudgesWith_12 : decode cL_smudgesWith 12 = .ok (.astore_n 3, 1) := by decide +kernel
theorem dL_smudgesWith_13 : decode cL_smudgesWith 13 = .ok (.iconst 1, 1) := by decide +kernel
theorem dL_smudgesWith_14 : decode cL_smudgesWith 14 = .ok (.ireturn, 1) := by decide +kernel
theorem dL_smudgesWith_15 : decode cL_smudgesWith 15 = .ok (.iconst 0, 1) := by decide +kernel
theorem dL_smudgesWith_16 : decode cL_smudgesWith 16 = .ok (.ireturn, 1) := by decide +kernel
set_option maxRecDepth 20000 in
theorem ggL_isCleared_X0_isCleared : GoodIn wsL_isCleared wsX0_isCleared := goodIn_ca (goodIn_r _ [6, 7, 8, 9, 5, 10, 11, 12, 13, 14, 15, 16, 17, 18, 19, 20, 21, 22, 23, 24, 25, 26, 27, 28, 29, 30, 31, 32, 33, 34, 35, 36] (by decide +kernel) (by decide +kernel)) (goodIn_sub (fun _ h => List.mem_cons_of_mem _ (List.mem_append_right _ h)) (by decide +kernel))
set_option maxRecDepth 20000 in
theorem gL_isCleared_X0_isCleared : GoodIn wsL_isCleared (wsV RL 40 RX0 yX0_isCleared wsX0_isCleared) := goodIn_app (goodIn_of _ (by decide +kernel)) ggL_isCleared_X0_isCleared
theorem dL_isCleared_0 : decode cL_isCleared 0 = .ok (.aload_n 2, 1) := by decide +kernel
theorem dL_isCleared_1 : decode cL_isCleared 1 = .ok (.iconst 0, 1) := by decide +kernel
theorem dL_isCleared_2 : decode cL_isCleared 2 = .ok (.aload_n 0, 1) := by decide +kernel
theorem dL_isCleared_3 : decode cL_isCleared 3 = .ok (.iload_n 1, 1) := by decide +kernel
theorem dL_isCleared_4 : decode cL_isCleared 4 = .ok (.invokevirtual 40, 3) := by decide +kernel
theorem dL_isCleared_7 : decode cL_isCleared 7 = .ok (.ifCond .eq 7, 3) := by decide +kernel
theorem dL_isCleared_10 : decode cL_isCleared 10 = .ok (.lconst 1, 1) := by decide +kernel
theorem dL_isCleared_11 : decode cL_isCleared 11 = .ok (.goto 4, 3) := by decide +kernel
theorem dL_isCleared_14 : decode cL_isCleared 14 = .ok (.lconst 0, 1) := by decide +kernel
theorem dL_isCleared_15 : decode cL_isCleared 15 = .ok (.lastore, 1) := by decide +kernel
theorem dL_isCleared_16 : decode cL_isCleared 16 = .ok (.goto 6, 3) := by decide +kernel
theorem dL_isCleared_19 : decode cL_isCleared 19 = .ok (.astore_n 3, 1) := by decide +kernel
theorem dL_isCleared_20 : decode cL_isCleared 20 = .ok (.iconst 1, 1) := by decide +kernel
theorem dL_isCleared_21 : decode cL_isCleared 21 = .ok (.ireturn, 1) := by decide +kernel
theorem dL_isCleared_22 : decode cL_isCleared 22 = .ok (.iconst 0, 1) := by decide +kernel
theorem dL_isCleared_23 : decode cL_isCleared 23 = .ok (.ireturn, 1) := by decide +kernel
set_option maxRecDepth 20000 in
theorem ggL_isProved_X0_isProved : GoodIn wsL_isProved wsX0_isProved := goodIn_ca (goodIn_r _ [6, 7, 8, 9, 10, 11, 12, 5, 13, 14, 15, 16, 17, 18, 19, 20, 21, 22, 23, 24, 25, 26, 27, 28, 29, 30, 31, 32, 33, 34, 35, 36] (by decide +kernel) (by decide +kernel)) (goodIn_sub (fun _ h => List.mem_cons_of_mem _ (List.mem_append_right _ h)) (by decide +kernel))
set_option maxRecDepth 20000 in
theorem gL_isProved_X0_isProved : GoodIn wsL_isProved (wsV RL 44 RX0 yX0_isProved wsX0_isProved) := goodIn_app (goodIn_of _ (by decide +kernel)) ggL_isProved_X0_isProved
theorem dL_isProved_0 : decode cL_isProved 0 = .ok (.aload_n 2, 1) := by decide +kernel
theorem dL_isProved_1 : decode cL_isProved 1 = .ok (.iconst 0, 1) := by decide +kernel
theorem dL_isProved_2 : decode cL_isProved 2 = .ok (.aload_n 0, 1) := by decide +kernel
theorem dL_isProved_3 : decode cL_isProved 3 = .ok (.iload_n 1, 1) := by decide +kernel
theorem dL_isProved_4 : decode cL_isProved 4 = .ok (.invokevirtual 44, 3) := by decide +kernel
theorem dL_isProved_7 : decode cL_isProved 7 = .ok (.ifCond .eq 7, 3) := by decide +kernel
theorem dL_isProved_10 : decode cL_isProved 10 = .ok (.lconst 1, 1) := by decide +kernel
theorem dL_isProved_11 : decode cL_isProved 11 = .ok (.goto 4, 3) := by decide +kernel
theorem dL_isProved_14 : decode cL_isProved 14 = .ok (.lconst 0, 1) := by decide +kernel
theorem dL_isProved_15 : decode cL_isProved 15 = .ok (.lastore, 1) := by decide +kernel
theorem dL_isProved_16 : decode cL_isProved 16 = .ok (.goto 6, 3) := by decide +kernel
theorem dL_isProved_19 : decode cL_isProved 19 = .ok (.astore_n 3, 1) := by decide +kernel
theorem dL_isProved_20 : decode cL_isProved 20 = .ok (.iconst 1, 1) := by decide +kernel
theorem dL_isProved_21 : decode cL_isProved 21 = .ok (.ireturn, 1) := by decide +kernel
theorem dL_isProved_22 : decode cL_isProved 22 = .ok (.iconst 0, 1) := by decide +kernel
theorem dL_isProved_23 : decode cL_isProved 23 = .ok (.ireturn, 1) := by decide +kernel
set_option maxRecDepth 20000 in
theorem ggL_setsWith_X0_setsWith : GoodIn wsL_setsWith wsX0_setsWith := goodIn_ca (goodIn_r _ [6, 7, 8, 9, 5, 10, 11, 12, 13, 14, 15, 16, 17, 18, 19, 20, 21, 22, 23, 24, 25, 26, 27, 28, 29, 30, 31, 32, 33, 34, 35, 36, 37, 38, 39] (by decide +kernel) (by decide +kernel)) (goodIn_sub (fun _ h => List.mem_cons_of_mem _ (List.mem_append_right _ h)) (by decide +kernel))
set_option maxRecDepth 20000 in
theorem gL_setsWith_X0_setsWith : GoodIn wsL_setsWith (wsV RL 47 RX0 yX0_setsWith wsX0_setsWith) := goodIn_app (goodIn_of _ (by decide +kernel)) ggL_setsWith_X0_setsWith
theorem dL_setsWith_0 : decode cL_setsWith 0 = .ok (.aload_n 2, 1) := by decide +kernel
theorem dL_setsWith_1 : decode cL_setsWith 1 = .ok (.iconst 0, 1) := by decide +kernel
theorem dL_setsWith_2 : decode cL_setsWith 2 = .ok (.aload_n 0, 1) := by decide +kernel
theorem dL_setsWith_3 : decode cL_setsWith 3 = .ok (.iload_n 1, 1) := by decide +kernel
theorem dL_setsWith_4 : decode cL_setsWith 4 = .ok (.invokevirtual 47, 3) := by decide +kernel
theorem dL_setsWith_7 : decode cL_setsWith 7 = .ok (.i2l, 1) := by decide +kernel
theorem dL_setsWith_8 : decode cL_setsWith 8 = .ok (.lastore, 1) := by decide +kernel
theorem dL_setsWith_9 : decode cL_setsWith 9 = .ok (.goto 6, 3) := by decide +kernel
theorem dL_setsWith_12 : decode cL_setsWith 12 = .ok (.astore_n 3, 1) := by decide +kernel
theorem dL_setsWith_13 : decode cL_setsWith 13 = .ok (.iconst 1, 1) := by decide +kernel
theorem dL_setsWith_14 : decode cL_setsWith 14 = .ok (.ireturn, 1) := by decide +kernel
theorem dL_setsWith_15 : decode cL_setsWith 15 = .ok (.iconst 0, 1) := by decide +kernel
theorem dL_setsWith_16 : decode cL_setsWith 16 = .ok (.ireturn, 1) := by decide +kernel
set_option maxRecDepth 20000 in
theorem ggL_usedIn_X0_usedIn : GoodIn wsL_usedIn wsX0_usedIn := goodIn_ca (goodIn_r _ [6, 7, 8, 9, 10, 5, 11, 12, 13, 14, 15, 16, 17, 18, 19, 20, 21, 22, 23, 24] (by decide +kernel) (by decide +kernel)) (goodIn_sub (fun _ h => List.mem_cons_of_mem _ (List.mem_append_right _ h)) (by decide +kernel))
set_option maxRecDepth 20000 in
theorem gL_usedIn_X0_usedIn : GoodIn wsL_usedIn (wsV RL 50 RX0 yX0_usedIn wsX0_usedIn) := goodIn_app (goodIn_of _ (by decide +kernel)) ggL_usedIn_X0_usedIn
theorem dL_usedIn_0 : decode cL_usedIn 0 = .ok (.aload_n 2, 1) := by decide +kernel
theorem dL_usedIn_1 : decode cL_usedIn 1 = .ok (.iconst 0, 1) := by decide +kernel
theorem dL_usedIn_2 : decode cL_usedIn 2 = .ok (.aload_n 0, 1) := by decide +kernel
theorem dL_usedIn_3 : decode cL_usedIn 3 = .ok (.iload_n 1, 1) := by decide +kernel
theorem dL_usedIn_4 : decode cL_usedIn 4 = .ok (.invokevirtual 50, 3) := by decide +kernel
theorem dL_usedIn_7 : decode cL_usedIn 7 = .ok (.i2l, 1) := by decide +kernel
theorem dL_usedIn_8 : decode cL_usedIn 8 = .ok (.lastore, 1) := by decide +kernel
theorem dL_usedIn_9 : decode cL_usedIn 9 = .ok (.goto 6, 3) := by decide +kernel
theorem dL_usedIn_12 : decode cL_usedIn 12 = .ok (.astore_n 3, 1) := by decide +kernel
theorem dL_usedIn_13 : decode cL_usedIn 13 = .ok (.iconst 1, 1) := by decide +kernel
theorem dL_usedIn_14 : decode cL_usedIn 14 = .ok (.ireturn, 1) := by decide +kernel
theorem dL_usedIn_15 : decode cL_usedIn 15 = .ok (.iconst 0, 1) := by decide +kernel
theorem dL_usedIn_16 : decode cL_usedIn 16 = .ok (.ireturn, 1) := by decide +kernel
set_option maxRecDepth 20000 in
theorem ggL_isSmudged_X0_isSmudged : GoodIn wsL_isSmudged wsX0_isSmudged := goodIn_ca (goodIn_r _ [6, 7, 8, 9, 10, 5, 11, 12, 13, 14, 15, 16, 17, 18, 19, 20, 21, 22, 23, 24] (by decide +kernel) (by decide +kernel)) (goodIn_sub (fun _ h => List.mem_cons_of_mem _ (List.mem_append_right _ h)) (by decide +kernel))
set_option maxRecDepth 20000 in
theorem gL_isSmudged_X0_isSmudged : GoodIn wsL_isSmudged (wsV RL 53 RX0 yX0_isSmudged wsX0_isSmudged) := goodIn_app (goodIn_of _ (by decide +kernel)) ggL_isSmudged_X0_isSmudged
theorem dL_isSmudged_0 : decode cL_isSmudged 0 = .ok (.aload_n 2, 1) := by decide +kernel
theorem dL_isSmudged_1 : decode cL_isSmudged 1 = .ok (.iconst 0, 1) := by decide +kernel
theorem dL_isSmudged_2 : decode cL_isSmudged 2 = .ok (.aload_n 0, 1) := by decide +kernel
theorem dL_isSmudged_3 : decode cL_isSmudged 3 = .ok (.iload_n 1, 1) := by decide +kernel
theorem dL_isSmudged_4 : decode cL_isSmudged 4 = .ok (.invokevirtual 53, 3) := by decide +kernel
theorem dL_isSmudged_7 : decode cL_isSmudged 7 = .ok (.ifCond .eq 7, 3) := by decide +kernel
theorem dL_isSmudged_10 : decode cL_isSmudged 10 = .ok (.lconst 1, 1) := by decide +kernel
theorem dL_isSmudged_11 : decode cL_isSmudged 11 = .ok (.goto 4, 3) := by decide +kernel
theorem dL_isSmudged_14 : decode cL_isSmudged 14 = .ok (.lconst 0, 1) := by decide +kernel
theorem dL_isSmudged_15 : decode cL_isSmudged 15 = .ok (.lastore, 1) := by decide +kernel
theorem dL_isSmudged_16 : decode cL_isSmudged 16 = .ok (.goto 6, 3) := by decide +kernel
theorem dL_isSmudged_19 : decode cL_isSmudged 19 = .ok (.astore_n 3, 1) := by decide +kernel
theorem dL_isSmudged_20 : decode cL_isSmudged 20 = .ok (.iconst 1, 1) := by decide +kernel
theorem dL_isSmudged_21 : decode cL_isSmudged 21 = .ok (.ireturn, 1) := by decide +kernel
theorem dL_isSmudged_22 : decode cL_isSmudged 22 = .ok (.iconst 0, 1) := by decide +kernel
theorem dL_isSmudged_23 : decode cL_isSmudged 23 = .ok (.ireturn, 1) := by decide +kernel
set_option maxRecDepth 20000 in
theorem ggL_blamedBy_X0_blamedBy : GoodIn wsL_blamedBy wsX0_blamedBy := goodIn_ca (goodIn_r _ [6, 7, 8, 9, 10, 5, 11, 12, 13, 14, 15, 16, 17, 18, 19, 20, 21, 22, 23, 24] (by decide +kernel) (by decide +kernel)) (goodIn_sub (fun _ h => List.mem_cons_of_mem _ (List.mem_append_right _ h)) (by decide +kernel))
set_option maxRecDepth 20000 in
theorem gL_blamedBy_X0_blamedBy : GoodIn wsL_blamedBy (wsV RL 56 RX0 yX0_blamedBy wsX0_blamedBy) := goodIn_app (goodIn_of _ (by decide +kernel)) ggL_blamedBy_X0_blamedBy
theorem dL_blamedBy_0 : decode cL_blamedBy 0 = .ok (.aload_n 2, 1) := by decide +kernel
theorem dL_blamedBy_1 : decode cL_blamedBy 1 = .ok (.iconst 0, 1) := by decide +kernel
theorem dL_blamedBy_2 : decode cL_blamedBy 2 = .ok (.aload_n 0, 1) := by decide +kernel
theorem dL_blamedBy_3 : decode cL_blamedBy 3 = .ok (.iload_n 1, 1) := by decide +kernel
theorem dL_blamedBy_4 : decode cL_blamedBy 4 = .ok (.invokevirtual 56, 3) := by decide +kernel
theorem dL_blamedBy_7 : decode cL_blamedBy 7 = .ok (.i2l, 1) := by decide +kernel
theorem dL_blamedBy_8 : decode cL_blamedBy 8 = .ok (.lastore, 1) := by decide +kernel
theorem dL_blamedBy_9 : decode cL_blamedBy 9 = .ok (.goto 6, 3) := by decide +kernel
theorem dL_blamedBy_12 : decode cL_blamedBy 12 = .ok (.astore_n 3, 1) := by decide +kernel
theorem dL_blamedBy_13 : decode cL_blamedBy 13 = .ok (.iconst 1, 1) := by decide +kernel
theorem dL_blamedBy_14 : decode cL_blamedBy 14 = .ok (.ireturn, 1) := by decide +kernel
theorem dL_blamedBy_15 : decode cL_blamedBy 15 = .ok (.iconst 0, 1) := by decide +kernel
theorem dL_blamedBy_16 : decode cL_blamedBy 16 = .ok (.ireturn, 1) := by decide +kernel
set_option maxRecDepth 20000 in
theorem ggL_stubbornnessOf_X0_stubbornnessOf : GoodIn wsL_stubbornnessOf wsX0_stubbornnessOf := goodIn_ca (goodIn_r _ [6, 7, 8, 9, 10, 5, 11, 12, 13, 14, 15, 16, 17, 18, 19, 20, 21, 22, 23, 24] (by decide +kernel) (by decide +kernel)) (goodIn_sub (fun _ h => List.mem_cons_of_mem _ (List.mem_append_right _ h)) (by decide +kernel))
set_option maxRecDepth 20000 in
theorem gL_stubbornnessOf_X0_stubbornnessOf : GoodIn wsL_stubbornnessOf (wsV RL 59 RX0 yX0_stubbornnessOf wsX0_stubbornnessOf) := goodIn_app (goodIn_of _ (by decide +kernel)) ggL_stubbornnessOf_X0_stubbornnessOf
theorem dL_stubbornnessOf_0 : decode cL_stubbornnessOf 0 = .ok (.aload_n 2, 1) := by decide +kernel
theorem dL_stubbornnessOf_1 : decode cL_stubbornnessOf 1 = .ok (.iconst 0, 1) := by decide +kernel
theorem dL_stubbornnessOf_2 : decode cL_stubbornnessOf 2 = .ok (.aload_n 0, 1) := by decide +kernel
theorem dL_stubbornnessOf_3 : decode cL_stubbornnessOf 3 = .ok (.iload_n 1, 1) := by decide +kernel
theorem dL_stubbornnessOf_4 : decode cL_stubbornnessOf 4 = .ok (.invokevirtual 59, 3) := by decide +kernel
theorem dL_stubbornnessOf_7 : decode cL_stubbornnessOf 7 = .ok (.i2l, 1) := by decide +kernel
theorem dL_stubbornnessOf_8 : decode cL_stubbornnessOf 8 = .ok (.lastore, 1) := by decide +kernel
theorem dL_stubbornnessOf_9 : decode cL_stubbornnessOf 9 = .ok (.goto 6, 3) := by decide +kernel
theorem dL_stubbornnessOf_12 : decode cL_stubbornnessOf 12 = .ok (.astore_n 3, 1) := by decide +kernel
theorem dL_stubbornnessOf_13 : decode cL_stubbornnessOf 13 = .ok (.iconst 1, 1) := by decide +kernel
theorem dL_stubbornnessOf_14 : decode cL_stubbornnessOf 14 = .ok (.ireturn, 1) := by decide +kernel
theorem dL_stubbornnessOf_15 : decode cL_stubbornnessOf 15 = .ok (.iconst 0, 1) := by decide +kernel
theorem dL_stubbornnessOf_16 : decode cL_stubbornnessOf 16 = .ok (.ireturn, 1) := by decide +kernel
set_option maxRecDepth 20000 in
theorem ggL_unexplainedBy_X0_unexplainedBy : GoodIn wsL_unexplainedBy wsX0_unexplainedBy := goodIn_ca (goodIn_r _ [6, 7, 8, 9, 10, 5, 11, 12, 13, 14, 15, 16, 17, 18, 19, 20, 21, 22, 23, 24, 25, 26, 27, 28, 29] (by decide +kernel) (by decide +kernel)) (goodIn_sub (fun _ h => List.mem_cons_of_mem _ (List.mem_append_right _ h)) (by decide +kernel))
set_option maxRecDepth 20000 in
theorem gL_unexplainedBy_X0_unexplainedBy : GoodIn wsL_unexplainedBy (wsV RL 62 RX0 yX0_unexplainedBy wsX0_unexplainedBy) := goodIn_app (goodIn_of _ (by decide +kernel)) ggL_unexplainedBy_X0_unexplainedBy
theorem dL_unexplainedBy_0 : decode cL_unexplainedBy 0 = .ok (.aload_n 2, 1) := by decide +kernel
theorem dL_unexplainedBy_1 : decode cL_unexplainedBy 1 = .ok (.iconst 0, 1) := by decide +kernel
theorem dL_unexplainedBy_2 : decode cL_unexplainedBy 2 = .ok (.aload_n 0, 1) := by decide +kernel
theorem dL_unexplainedBy_3 : decode cL_unexplainedBy 3 = .ok (.iload_n 1, 1) := by decide +kernel
theorem dL_unexplainedBy_4 : decode cL_unexplainedBy 4 = .ok (.invokevirtual 62, 3) := by decide +kernel
theorem dL_unexplainedBy_7 : decode cL_unexplainedBy 7 = .ok (.i2l, 1) := by decide +kernel
theorem dL_unexplainedBy_8 : decode cL_unexplainedBy 8 = .ok (.lastore, 1) := by decide +kernel
theorem dL_unexplainedBy_9 : decode cL_unexplainedBy 9 = .ok (.goto 6, 3) := by decide +kernel
theorem dL_unexplainedBy_12 : decode cL_unexplainedBy 12 = .ok (.astore_n 3, 1) := by decide +kernel
theorem dL_unexplainedBy_13 : decode cL_unexplainedBy 13 = .ok (.iconst 1, 1) := by decide +kernel
theorem dL_unexplainedBy_14 : decode cL_unexplainedBy 14 = .ok (.ireturn, 1) := by decide +kernel
theorem dL_unexplainedBy_15 : decode cL_unexplainedBy 15 = .ok (.iconst 0, 1) := by decide +kernel
theorem dL_unexplainedBy_16 : decode cL_unexplainedBy 16 = .ok (.ireturn, 1) := by decide +kernel
set_option maxRecDepth 20000 in
theorem ggL_votesFor_X0_votesFor : GoodIn wsL_votesFor wsX0_votesFor := goodIn_ca (goodIn_r _ [6, 7, 8, 9, 10, 11, 5, 12, 13, 14, 15, 16, 17, 18, 19, 20, 21, 22, 23, 24, 25, 26, 27, 28, 29, 30, 31] (by decide +kernel) (by decide +kernel)) (goodIn_sub (fun _ h => List.mem_cons_of_mem _ (List.mem_append_right _ h)) (by decide +kernel))
set_option maxRecDepth 20000 in
theorem gL_votesFor_X0_votesFor : GoodIn wsL_votesFor (wsV RL 65 RX0 yX0_votesFor wsX0_votesFor) := goodIn_app (goodIn_of _ (by decide +kernel)) ggL_votesFor_X0_votesFor
theorem dL_votesFor_0 : decode cL_votesFor 0 = .ok (.aload_n 2, 1) := by decide +kernel
theorem dL_votesFor_1 : decode cL_votesFor 1 = .ok (.iconst 0, 1) := by decide +kernel
theorem dL_votesFor_2 : decode cL_votesFor 2 = .ok (.aload_n 0, 1) := by decide +kernel
theorem dL_votesFor_3 : decode cL_votesFor 3 = .ok (.iload_n 1, 1) := by decide +kernel
theorem dL_votesFor_4 : decode cL_votesFor 4 = .ok (.invokevirtual 65, 3) := by decide +kernel
theorem dL_votesFor_7 : decode cL_votesFor 7 = .ok (.i2l, 1) := by decide +kernel
theorem dL_votesFor_8 : decode cL_votesFor 8 = .ok (.lastore, 1) := by decide +kernel
theorem dL_votesFor_9 : decode cL_votesFor 9 = .ok (.goto 6, 3) := by decide +kernel
theorem dL_votesFor_12 : decode cL_votesFor 12 = .ok (.astore_n 3, 1) := by decide +kernel
theorem dL_votesFor_13 : decode cL_votesFor 13 = .ok (.iconst 1, 1) := by decide +kernel
theorem dL_votesFor_14 : decode cL_votesFor 14 = .ok (.ireturn, 1) := by decide +kernel
theorem dL_votesFor_15 : decode cL_votesFor 15 = .ok (.iconst 0, 1) := by decide +kernel
theorem dL_votesFor_16 : decode cL_votesFor 16 = .ok (.ireturn, 1) := by decide +kernel
set_option maxRecDepth 20000 in
theorem ggL_explainsAll_X0_explainsAll : GoodIn wsL_explainsAll wsX0_explainsAll := goodIn_ca (goodIn_r _ [6, 7, 8, 9, 5, 10, 11, 12, 13, 14, 15, 16, 17, 18, 19, 20, 21, 22, 23, 24, 25, 26, 27, 28, 29, 30, 31, 32] (by decide +kernel) (by decide +kernel)) (goodIn_sub (fun _ h => List.mem_cons_of_mem _ (List.mem_append_right _ h)) (by decide +kernel))
set_option maxRecDepth 20000 in
theorem gL_explainsAll_X0_explainsAll : GoodIn wsL_explainsAll (wsV RL 68 RX0 yX0_explainsAll wsX0_explainsAll) := goodIn_app (goodIn_of _ (by decide +kernel)) ggL_explainsAll_X0_explainsAll
theorem dL_explainsAll_0 : decode cL_explainsAll 0 = .ok (.aload_n 2, 1) := by decide +kernel
theorem dL_explainsAll_1 : decode cL_explainsAll 1 = .ok (.iconst 0, 1) := by decide +kernel
theorem dL_explainsAll_2 : decode cL_explainsAll 2 = .ok (.aload_n 0, 1) := by decide +kernel
theorem dL_explainsAll_3 : decode cL_explainsAll 3 = .ok (.iload_n 1, 1) := by decide +kernel
theorem dL_explainsAll_4 : decode cL_explainsAll 4 = .ok (.invokevirtual 68, 3) := by decide +kernel
theorem dL_explainsAll_7 : decode cL_explainsAll 7 = .ok (.ifCond .eq 7, 3) := by decide +kernel
theorem dL_explainsAll_10 : decode cL_explainsAll 10 = .ok (.lconst 1, 1) := by decide +kernel
theorem dL_explainsAll_11 : decode cL_explainsAll 11 = .ok (.goto 4, 3) := by decide +kernel
theorem dL_explainsAll_14 : decode cL_explainsAll 14 = .ok (.lconst 0, 1) := by decide +kernel
theorem dL_explainsAll_15 : decode cL_explainsAll 15 = .ok (.lastore, 1) := by decide +kernel
theorem dL_explainsAll_16 : decode cL_explainsAll 16 = .ok (.goto 6, 3) := by decide +kernel
theorem dL_explainsAll_19 : decode cL_explainsAll 19 = .ok (.astore_n 3, 1) := by decide +kernel
theorem dL_explainsAll_20 : decode cL_explainsAll 20 = .ok (.iconst 1, 1) := by decide +kernel
theorem dL_explainsAll_21 : decode cL_explainsAll 21 = .ok (.ireturn, 1) := by decide +kernel
theorem dL_explainsAll_22 : decode cL_explainsAll 22 = .ok (.iconst 0, 1) := by decide +kernel
theorem dL_explainsAll_23 : decode cL_explainsAll 23 = .ok (.ireturn, 1) := by decide +kernel
set_option maxRecDepth 20000 in
theorem ggL_leftIfSmudged_X0_leftIfSmudged : GoodIn wsL_leftIfSmudged wsX0_leftIfSmudged := goodIn_ca (goodIn_r _ [6, 7, 8, 9, 5, 10, 11, 12, 13, 14, 15, 16, 17, 18, 19, 20, 21, 22, 23, 24, 25, 26, 27, 28, 29, 30, 31, 32, 33, 34, 35, 36] (by decide +kernel) (by decide +kernel)) (goodIn_sub (fun _ h => List.mem_cons_of_mem _ (List.mem_append_right _ h)) (by decide +kernel))
set_option maxRecDepth 20000 in
theorem gL_leftIfSmudged_X0_leftIfSmudged : GoodIn wsL_leftIfSmudged (wsV RL 71 RX0 yX0_leftIfSmudged wsX0_leftIfSmudged) := goodIn_app (goodIn_of _ (by decide +kernel)) ggL_leftIfSmudged_X0_leftIfSmudged
theorem dL_leftIfSmudged_0 : decode cL_leftIfSmudged 0 = .ok (.aload_n 2, 1) := by decide +kernel
theorem dL_leftIfSmudged_1 : decode cL_leftIfSmudged 1 = .ok (.iconst 0, 1) := by decide +kernel
theorem dL_leftIfSmudged_2 : decode cL_leftIfSmudged 2 = .ok (.aload_n 0, 1) := by decide +kernel
theorem dL_leftIfSmudged_3 : decode cL_leftIfSmudged 3 = .ok (.iload_n 1, 1) := by decide +kernel
theorem dL_leftIfSmudged_4 : decode cL_leftIfSmudged 4 = .ok (.invokevirtual 71, 3) := by decide +kernel
theorem dL_leftIfSmudged_7 : decode cL_leftIfSmudged 7 = .ok (.i2l, 1) := by decide +kernel
theorem dL_leftIfSmudged_8 : decode cL_leftIfSmudged 8 = .ok (.lastore, 1) := by decide +kernel
theorem dL_leftIfSmudged_9 : decode cL_leftIfSmudged 9 = .ok (.goto 6, 3) := by decide +kernel
theorem dL_leftIfSmudged_12 : decode cL_leftIfSmudged 12 = .ok (.astore_n 3, 1) := by decide +kernel
theorem dL_leftIfSmudged_13 : decode cL_leftIfSmudged 13 = .ok (.iconst 1, 1) := by decide +kernel
theorem dL_leftIfSmudged_14 : decode cL_leftIfSmudged 14 = .ok (.ireturn, 1) := by decide +kernel
theorem dL_leftIfSmudged_15 : decode cL_leftIfSmudged 15 = .ok (.iconst 0, 1) := by decide +kernel
theorem dL_leftIfSmudged_16 : decode cL_leftIfSmudged 16 = .ok (.ireturn, 1) := by decide +kernel
set_option maxRecDepth 20000 in
theorem ggL_wouldChange_X0_wouldChange : GoodIn wsL_wouldChange wsX0_wouldChange := goodIn_ca (goodIn_ca (goodIn_r _ [7, 8, 9, 10, 11, 12, 13, 6, 14, 15, 16, 17, 18, 19, 20, 21, 22, 23, 24, 25, 26, 27, 28, 29, 30, 31, 32, 33, 34, 35, 36, 37, 38, 39, 40, 41, 42, 43, 44, 45, 46, 47, 48, 49, 50] (by decide +kernel) (by decide +kernel)) (goodIn_sub (fun _ h => List.mem_cons_of_mem _ (List.mem_append_left _ (List.mem_append_right _ h))) (by decide +kernel))) (goodIn_sub (fun _ h => List.mem_cons_of_mem _ (List.mem_append_right _ h)) (by decide +kernel))
set_option maxRecDepth 20000 in
theorem gL_wouldChange_X0_wouldChange : GoodIn wsL_wouldChange (wsV RL 74 RX0 yX0_wouldChange wsX0_wouldChange) := goodIn_app (goodIn_of _ (by decide +kernel)) ggL_wouldChange_X0_wouldChange
theorem dL_wouldChange_0 : decode cL_wouldChange 0 = .ok (.aload_n 3, 1) := by decide +kernel
theorem dL_wouldChange_1 : decode cL_wouldChange 1 = .ok (.iconst 0, 1) := by decide +kernel
theorem dL_wouldChange_2 : decode cL_wouldChange 2 = .ok (.aload_n 0, 1) := by decide +kernel
theorem dL_wouldChange_3 : decode cL_wouldChange 3 = .ok (.iload_n 1, 1) := by decide +kernel
theorem dL_wouldChange_4 : decode cL_wouldChange 4 = .ok (.iload_n 2, 1) := by decide +kernel
theorem dL_wouldChange_5 : decode cL_wouldChange 5 = .ok (.invokevirtual 74, 3) := by decide +kernel
theorem dL_wouldChange_8 : decode cL_wouldChange 8 = .ok (.i2l, 1) := by decide +kernel
theorem dL_wouldChange_9 : decode cL_wouldChange 9 = .ok (.lastore, 1) := by decide +kernel
theorem dL_wouldChange_10 : decode cL_wouldChange 10 = .ok (.goto 11, 3) := by decide +kernel
theorem dL_wouldChange_13 : decode cL_wouldChange 13 = .ok (.astore 4, 2) := by decide +kernel
theorem dL_wouldChange_15 : decode cL_wouldChange 15 = .ok (.iconst 1, 1) := by decide +kernel
theorem dL_wouldChange_16 : decode cL_wouldChange 16 = .ok (.ireturn, 1) := by decide +kernel
theorem dL_wouldChange_17 : decode cL_wouldChange 17 = .ok (.astore 4, 2) := by decide +kernel
theorem dL_wouldChange_19 : decode cL_wouldChange 19 = .ok (.iconst 2, 1) := by decide +kernel
theorem dL_wouldChange_20 : decode cL_wouldChange 20 = .ok (.ireturn, 1) := by decide +kernel
theorem dL_wouldChange_21 : decode cL_wouldChange 21 = .ok (.iconst 0, 1) := by decide +kernel
theorem dL_wouldChange_22 : decode cL_wouldChange 22 = .ok (.ireturn, 1) := by decide +kernel
set_option maxRecDepth 20000 in
theorem ggL_law_X0_init : GoodIn wsL_law wsX0_init := goodIn_r _ [9, 10, 11, 12, 13, 14, 15, 16, 17, 18, 19, 20, 21, 22, 23, 24, 596, 597, 598, 599, 600, 601, 602, 603, 604, 605] (by decide +kernel) (by decide +kernel)
set_option maxRecDepth 20000 in
theorem gL_law_X0_init : GoodIn wsL_law (wsX0_init) := ggL_law_X0_init
set_option maxRecDepth 20000 in
theorem ggL_law_X1_init : GoodIn wsL_law wsX1_init := goodIn_r _ [27, 28, 11, 12, 15, 29, 17, 30, 31, 32, 33, 606, 607, 608, 609, 610, 611, 612, 613, 614, 615] (by decide +kernel) (by decide +kernel)
set_option maxRecDepth 20000 in
theorem gL_law_X1_init : GoodIn wsL_law (wsX1_init) := ggL_law_X1_init
set_option maxRecDepth 20000 in
theorem ggL_law_L_addThing : GoodIn wsL_law wsL_addThing := goodIn_ca (goodIn_r _ [37, 38, 39, 40, 41, 2, 42, 43, 44, 13, 596, 597, 598, 599, 600, 601, 602, 603, 604, 605] (by decide +kernel) (by decide +kernel)) (goodIn_sub (fun _ h => List.mem_append_left _ (List.mem_append_left _ (List.mem_append_right _ h))) (by decide +kernel))
set_option maxRecDepth 20000 in
theorem gL_law_L_addThing : GoodIn wsL_law (va_wsS RL 81 yL_addThing wsL_addThing) := goodIn_app (goodIn_of _ (by decide +kernel)) ggL_law_L_addThing
set_option maxRecDepth 20000 in
theorem ggL_law_X1_addThing : GoodIn wsL_law wsX1_addThing := goodIn_r _ [48, 49, 50, 51, 52, 53, 5, 54, 606, 607, 608, 609, 610, 611, 612, 613, 614, 615] (by decide +kernel) (by decide +kernel)
set_option maxRecDepth 20000 in
theorem gL_law_X1_addThing : GoodIn wsL_law (wsV RL 86 RX1 yX1_addThing wsX1_addThing) := goodIn_app (goodIn_of _ (by decide +kernel)) ggL_law_X1_addThing
set_option maxRecDepth 20000 in
theorem ggL_law_X1_thrown : GoodIn wsL_law wsX1_thrown := goodIn_r _ [58, 49, 606, 607, 608, 609, 610, 611, 612, 613, 614, 615] (by decide +kernel) (by decide +kernel)
set_option maxRecDepth 20000 in
theorem gL_law_X1_thrown : GoodIn wsL_law (wsV RL 87 RX1 yX1_thrown wsX1_thrown) := goodIn_app (goodIn_of _ (by decide +kernel)) ggL_law_X1_thrown
set_option maxRecDepth 20000 in
theorem ggL_law_L_addAstronomer : GoodIn wsL_law wsL_addAstronomer := goodIn_ca (goodIn_ca (goodIn_r _ [61, 62, 38, 63, 64, 65, 2, 66, 67, 68, 43, 44, 20, 23, 69, 70, 71, 72, 21, 22, 596, 597, 598, 599, 600, 601, 602, 603, 604, 605] (by decide +kernel) (by decide +kernel)) (goodIn_sub (fun _ h => List.mem_append_left _ (List.mem_append_right _ h)) (by decide +kernel))) (goodIn_sub (fun _ h => List.mem_append_left _ (List.mem_append_left _ (List.mem_append_right _ h))) (by decide +kernel))
set_option maxRecDepth 20000 in
theorem gL_law_L_addAstronomer : GoodIn wsL_law (va_wsS RL 90 yL_addAstronomer wsL_addAstronomer) := goodIn_app (goodIn_of _ (by decide +kernel)) ggL_law_L_addAstronomer
set_option maxRecDepth 20000 in
theorem ggL_law_X1_addAstronomer : GoodIn wsL_law wsX1_addAstronomer := goodIn_r _ [76, 49, 77, 31, 32, 78, 79, 5, 80, 51, 52, 53, 54, 606, 607, 608, 609, 610, 611, 612, 613, 614, 615] (by decide +kernel) (by decide +kernel)
set_option maxRecDepth 20000 in
theorem gL_law_X1_addAstronomer : GoodIn wsL_law (wsV RL 93 RX1 yX1_addAstronomer wsX1_addAstronomer) := goodIn_app (goodIn_of _ (by decide +kernel)) ggL_law_X1_addAstronomer
set_option maxRecDepth 20000 in
theorem ggL_law_L_blame : GoodIn wsL_law wsL_blame := goodIn_ca (goodIn_ca (goodIn_r _ [83, 84, 62, 85, 86, 87, 2, 88, 21, 89, 90, 91, 92, 93, 94, 20, 95, 96, 97, 98, 67, 68, 99, 100, 101, 102, 13, 69, 70, 71, 72, 22, 23, 596, 597, 598, 599, 600, 601, 602, 603, 604, 605] (by decide +kernel) (by decide +kernel)) (goodIn_sub (fun _ h => List.mem_append_right _ h) (by decide +kernel))) (goodIn_sub (fun _ h => List.mem_append_left _ (List.mem_append_right _ h)) (by decide +kernel))
set_option maxRecDepth 20000 in
theorem gL_law_L_blame : GoodIn wsL_law (va_wsS RL 94 yL_blame wsL_blame) := goodIn_app (goodIn_of _ (by decide +kernel)) ggL_law_L_blame
set_option maxRecDepth 20000 in
theorem ggL_law_X1_blame : GoodIn wsL_law wsX1_blame := goodIn_r _ [106, 49, 33, 107, 108, 109, 5, 110, 77, 78, 79, 80, 51, 52, 53, 54, 111, 112, 113, 114, 50, 115, 116, 117, 118, 32, 31, 606, 607, 608, 609, 610, 611, 612, 613, 614, 615] (by decide +kernel) (by decide +kernel)
set_option maxRecDepth 20000 in
theorem gL_law_X1_blame : GoodIn wsL_law (wsV RL 97 RX1 yX1_blame wsX1_blame) := goodIn_app (goodIn_of _ (by decide +kernel)) ggL_law_X1_blame
set_option maxRecDepth 20000 in
theorem ggL_law_L_writeDown : GoodIn wsL_law wsL_writeDown := goodIn_ca (goodIn_ca (goodIn_r _ [121, 62, 38, 122, 123, 124, 2, 125, 16, 14, 18, 24, 126, 127, 128, 129, 67, 68, 99, 100, 101, 102, 13, 130, 131, 132, 133, 43, 44, 134, 135, 136, 137, 19, 138, 139, 140, 141, 142, 143, 144, 20, 21, 22, 145, 146, 147, 148, 149, 150, 151, 152, 153, 154, 155, 156, 157, 158, 159, 69, 70, 71, 72, 23, 596, 597, 598, 599, 600, 601, 602, 603, 604, 605] (by decide +kernel) (by decide +kernel)) (goodIn_sub (fun _ h => List.mem_append_left _ (List.mem_append_right _ h)) (by decide +kernel))) (goodIn_sub (fun _ h => List.mem_append_left _ (List.mem_append_left _ (List.mem_append_right _ h))) (by decide +kernel))
set_option maxRecDepth 20000 in
theorem gL_law_L_writeDown : GoodIn wsL_law (va_wsS RL 98 yL_writeDown wsL_writeDown) := goodIn_app (goodIn_of _ (by decide +kernel)) ggL_law_L_writeDown
set_option maxRecDepth 20000 in
theorem ggL_law_X1_writeDown : GoodIn wsL_law wsX1_writeDown := goodIn_r _ [163, 49, 164, 77, 33, 32, 165, 111, 112, 113, 5, 114, 50, 78, 79, 80, 51, 52, 53, 54, 166, 167, 168, 169, 29, 30, 170, 171, 172, 173, 174, 175, 176, 177, 178, 179, 180, 181, 154, 155, 156, 157, 158, 159, 115, 116, 117, 118, 31, 606, 607, 608, 609, 610, 611, 612, 613, 614, 615] (by decide +kernel) (by decide +kernel)
set_option maxRecDepth 20000 in
theorem gL_law_X1_writeDown : GoodIn wsL_law (wsV RL 101 RX1 yX1_writeDown wsX1_writeDown) := goodIn_app (goodIn_of _ (by decide +kernel)) ggL_law_X1_writeDown
set_option maxRecDepth 20000 in
theorem ggL_law_L_strike : GoodIn wsL_law wsL_strike := goodIn_ca (goodIn_r _ [184, 84, 185, 186, 187, 2, 188, 16, 18, 14, 189, 190, 191, 192, 93, 94, 134, 135, 136, 137, 19, 138, 139, 140, 596, 597, 598, 599, 600, 601, 602, 603, 604, 605] (by decide +kernel) (by decide +kernel)) (goodIn_sub (fun _ h => List.mem_append_right _ h) (by decide +kernel))
set_option maxRecDepth 20000 in
theorem gL_law_L_strike : GoodIn wsL_law (va_wsS RL 102 yL_strike wsL_strike) := goodIn_app (goodIn_of _ (by decide +kernel)) ggL_law_L_strike
set_option maxRecDepth 20000 in
theorem ggL_law_X1_strike : GoodIn wsL_law wsX1_strike := goodIn_r _ [196, 49, 164, 29, 30, 197, 198, 199, 5, 200, 78, 79, 80, 51, 52, 53, 54, 606, 607, 608, 609, 610, 611, 612, 613, 614, 615] (by decide +kernel) (by decide +kernel)
set_option maxRecDepth 20000 in
theorem gL_law_X1_strike : GoodIn wsL_law (wsV RL 104 RX1 yX1_strike wsX1_strike) := goodIn_app (goodIn_of _ (by decide +kernel)) ggL_law_X1_strike
set_option maxRecDepth 20000 in
theorem ggL_law_X0_things : GoodIn wsL_law wsX0_things := goodIn_r _ [204, 13, 596, 597, 598, 599, 600, 601, 602, 603, 604, 605] (by decide +kernel) (by decide +kernel)
set_option maxRecDepth 20000 in
theorem gL_law_X0_things : GoodIn wsL_law (wsV RL 105 RX0 yX0_things wsX0_things) := goodIn_app (goodIn_of _ (by decide +kernel)) ggL_law_X0_things
set_option maxRecDepth 20000 in
theorem ggL_law_X1_things : GoodIn wsL_law wsX1_things := goodIn_r _ [208, 50, 209, 210, 211, 5, 212, 49, 606, 607, 608, 609, 610, 611, 612, 613, 614, 615] (by decide +kernel) (by decide +kernel)
set_option maxRecDepth 20000 in
theorem gL_law_X1_things : GoodIn wsL_law (wsV RL 108 RX1 yX1_things wsX1_things) := goodIn_app (goodIn_of _ (by decide +kernel)) ggL_law_X1_things
set_option maxRecDepth 20000 in
theorem ggL_law_L_nightsWith : GoodIn wsL_law wsL_nightsWith := goodIn_ca (goodIn_r _ [215, 84, 216, 217, 218, 2, 219, 14, 16, 220, 221, 222, 223, 93, 94, 13, 224, 225, 226, 227, 228, 229, 596, 597, 598, 599, 600, 601, 602, 603, 604, 605] (by decide +kernel) (by decide +kernel)) (goodIn_sub (fun _ h => List.mem_append_right _ h) (by decide +kernel))
set_option maxRecDepth 20000 in
theorem gL_law_L_nightsWith : GoodIn wsL_law (va_wsS RL 109 yL_nightsWith wsL_nightsWith) := goodIn_app (goodIn_of _ (by decide +kernel)) ggL_law_L_nightsWith
set_option maxRecDepth 20000 in
theorem ggL_law_X1_nightsWith : GoodIn wsL_law wsX1_nightsWith := goodIn_r _ [233, 49, 234, 235, 236, 5, 237, 50, 78, 79, 80, 238, 239, 240, 241, 164, 29, 30, 242, 243, 244, 51, 52, 53, 54, 606, 607, 608, 609, 610, 611, 612, 613, 614, 615] (by decide +kernel) (by decide +kernel)
set_option maxRecDepth 20000 in
theorem gL_law_X1_nightsWith : GoodIn wsL_law (wsV RL 111 RX1 yX1_nightsWith wsX1_nightsWith) := goodIn_app (goodIn_of _ (by decide +kernel)) ggL_law_X1_nightsWith
set_option maxRecDepth 20000 in
theorem ggL_law_L_smudgesWith : GoodIn wsL_law wsL_smudgesWith := goodIn_ca (goodIn_r _ [247, 84, 248, 249, 250, 2, 251, 14, 18, 16, 220, 221, 222, 223, 93, 94, 13, 224, 225, 226, 227, 228, 229, 596, 597, 598, 599, 600, 601, 602, 603, 604, 605] (by decide +kernel) (by decide +kernel)) (goodIn_sub (fun _ h => List.mem_append_right _ h) (by decide +kernel))
set_option maxRecDepth 20000 in
theorem gL_law_L_smudgesWith : GoodIn wsL_law (va_wsS RL 112 yL_smudgesWith wsL_smudgesWith) := goodIn_app (goodIn_of _ (by decide +kernel)) ggL_law_L_smudgesWith
set_option maxRecDepth 20000 in
theorem ggL_law_X1_smudgesWith : GoodIn wsL_law wsX1_smudgesWith := goodIn_r _ [255, 49, 234, 235, 236, 5, 237, 50, 78, 79, 80, 238, 239, 240, 241, 164, 29, 30, 242, 243, 244, 51, 52, 53, 54, 606, 607, 608, 609, 610, 611, 612, 613, 614, 615] (by decide +kernel) (by decide +kernel)
set_option maxRecDepth 20000 in
theorem gL_law_X1_smudgesWith : GoodIn wsL_law (wsV RL 114 RX1 yX1_smudgesWith wsX1_smudgesWith) := goodIn_app (goodIn_of _ (by decide +kernel)) ggL_law_X1_smudgesWith
set_option maxRecDepth 20000 in
theorem ggL_law_L_isCleared : GoodIn wsL_law wsL_isCleared := goodIn_ca (goodIn_r _ [258, 84, 259, 260, 261, 2, 262, 220, 221, 222, 223, 93, 94, 13, 263, 264, 265, 266, 14, 18, 16, 224, 225, 226, 227, 228, 229, 596, 597, 598, 599, 600, 601, 602, 603, 604, 605] (by decide +kernel) (by decide +kernel)) (goodIn_sub (fun _ h => List.mem_append_right _ h) (by decide +kernel))
set_option maxRecDepth 20000 in
theorem gL_law_L_isCleared : GoodIn wsL_law (va_wsS RL 115 yL_isCleared wsL_isCleared) := goodIn_app (goodIn_of _ (by decide +kernel)) ggL_law_L_isCleared
set_option maxRecDepth 20000 in
theorem ggL_law_X1_isCleared : GoodIn wsL_law wsX1_isCleared := goodIn_r _ [270, 49, 234, 235, 236, 5, 237, 50, 78, 79, 80, 271, 272, 273, 274, 164, 30, 29, 242, 243, 244, 275, 276, 277, 278, 606, 607, 608, 609, 610, 611, 612, 613, 614, 615] (by decide +kernel) (by decide +kernel)
set_option maxRecDepth 20000 in
theorem gL_law_X1_isCleared : GoodIn wsL_law (wsV RL 117 RX1 yX1_isCleared wsX1_isCleared) := goodIn_app (goodIn_of _ (by decide +kernel)) ggL_law_X1_isCleared
set_option maxRecDepth 20000 in
theorem ggL_law_L_isProved : GoodIn wsL_law wsL_isProved := goodIn_ca (goodIn_r _ [281, 84, 282, 283, 284, 2, 285, 14, 16, 18, 220, 221, 222, 223, 93, 94, 13, 263, 264, 265, 266, 227, 228, 229, 224, 225, 226, 596, 597, 598, 599, 600, 601, 602, 603, 604, 605] (by decide +kernel) (by decide +kernel)) (goodIn_sub (fun _ h => List.mem_append_right _ h) (by decide +kernel))
set_option maxRecDepth 20000 in
theorem gL_law_L_isProved : GoodIn wsL_law (va_wsS RL 118 yL_isProved wsL_isProved) := goodIn_app (goodIn_of _ (by decide +kernel)) ggL_law_L_isProved
set_option maxRecDepth 20000 in
theorem ggL_law_X1_isProved : GoodIn wsL_law wsX1_isProved := goodIn_r _ [289, 49, 234, 235, 236, 5, 237, 50, 78, 79, 80, 290, 291, 292, 293, 164, 30, 29, 271, 272, 273, 274, 242, 243, 244, 275, 276, 277, 278, 606, 607, 608, 609, 610, 611, 612, 613, 614, 615] (by decide +kernel) (by decide +kernel)
set_option maxRecDepth 20000 in
theorem gL_law_X1_isProved : GoodIn wsL_law (wsV RL 120 RX1 yX1_isProved wsX1_isProved) := goodIn_app (goodIn_of _ (by decide +kernel)) ggL_law_X1_isProved
set_option maxRecDepth 20000 in
theorem ggL_law_L_setsWith : GoodIn wsL_law wsL_setsWith := goodIn_ca (goodIn_r _ [296, 84, 297, 298, 299, 2, 300, 220, 221, 222, 223, 93, 94, 13, 227, 228, 229, 301, 302, 303, 304, 99, 100, 101, 102, 149, 150, 151, 152, 19, 596, 597, 598, 599, 600, 601, 602, 603, 604, 605] (by decide +kernel) (by decide +kernel)) (goodIn_sub (fun _ h => List.mem_append_right _ h) (by decide +kernel))
set_option maxRecDepth 20000 in
theorem gL_law_L_setsWith : GoodIn wsL_law (va_wsS RL 121 yL_setsWith wsL_setsWith) := goodIn_app (goodIn_of _ (by decide +kernel)) ggL_law_L_setsWith
set_option maxRecDepth 20000 in
theorem ggL_law_X1_setsWith : GoodIn wsL_law wsX1_setsWith := goodIn_r _ [308, 49, 234, 235, 236, 5, 237, 50, 78, 79, 80, 309, 310, 311, 312, 111, 112, 113, 114, 242, 243, 244, 174, 175, 176, 177, 164, 29, 30, 178, 179, 180, 51, 52, 53, 54, 606, 607, 608, 609, 610, 611, 612, 613, 614, 615] (by decide +kernel) (by decide +kernel)
set_option maxRecDepth 20000 in
theorem gL_law_X1_setsWith : GoodIn wsL_law (wsV RL 123 RX1 yX1_setsWith wsX1_setsWith) := goodIn_app (goodIn_of _ (by decide +kernel)) ggL_law_X1_setsWith
set_option maxRecDepth 20000 in
theorem ggL_law_X0_nights : GoodIn wsL_law wsX0_nights := goodIn_r _ [316, 14, 596, 597, 598, 599, 600, 601, 602, 603, 604, 605] (by decide +kernel) (by decide +kernel)
set_option maxRecDepth 20000 in
theorem gL_law_X0_nights : GoodIn wsL_law (wsV RL 124 RX0 yX0_nights wsX0_nights) := goodIn_app (goodIn_of _ (by decide +kernel)) ggL_law_X0_nights
set_option maxRecDepth 20000 in
theorem ggL_law_X1_nights : GoodIn wsL_law wsX1_nights := goodIn_r _ [320, 164, 209, 210, 211, 5, 212, 49, 606, 607, 608, 609, 610, 611, 612, 613, 614, 615] (by decide +kernel) (by decide +kernel)
set_option maxRecDepth 20000 in
theorem gL_law_X1_nights : GoodIn wsL_law (wsV RL 127 RX1 yX1_nights wsX1_nights) := goodIn_app (goodIn_of _ (by decide +kernel)) ggL_law_X1_nights
set_option maxRecDepth 20000 in
theorem ggL_law_X0_smudges : GoodIn wsL_law wsX0_smudges := goodIn_r _ [324, 14, 18, 596, 597, 598, 599, 600, 601, 602, 603, 604, 605] (by decide +kernel) (by decide +kernel)
set_option maxRecDepth 20000 in
theorem gL_law_X0_smudges : GoodIn wsL_law (wsV RL 128 RX0 yX0_smudges wsX0_smudges) := goodIn_app (goodIn_of _ (by decide +kernel)) ggL_law_X0_smudges
set_option maxRecDepth 20000 in
theorem ggL_law_X1_smudges : GoodIn wsL_law wsX1_smudges := goodIn_r _ [328, 329, 330, 331, 5, 332, 164, 30, 209, 210, 211, 212, 49, 606, 607, 608, 609, 610, 611, 612, 613, 614, 615] (by decide +kernel) (by decide +kernel)
set_option maxRecDepth 20000 in
theorem gL_law_X1_smudges : GoodIn wsL_law (wsV RL 131 RX1 yX1_smudges wsX1_smudges) := goodIn_app (goodIn_of _ (by decide +kernel)) ggL_law_X1_smudges
set_option maxRecDepth 20000 in
theorem ggL_law_L_usedIn : GoodIn wsL_law wsL_usedIn := goodIn_ca (goodIn_r _ [335, 84, 336, 337, 338, 2, 339, 16, 189, 190, 191, 192, 93, 94, 14, 596, 597, 598, 599, 600, 601, 602, 603, 604, 605] (by decide +kernel) (by decide +kernel)) (goodIn_sub (fun _ h => List.mem_append_right _ h) (by decide +kernel))
set_option maxRecDepth 20000 in
theorem gL_law_L_usedIn : GoodIn wsL_law (va_wsS RL 132 yL_usedIn wsL_usedIn) := goodIn_app (goodIn_of _ (by decide +kernel)) ggL_law_L_usedIn
set_option maxRecDepth 20000 in
theorem ggL_law_X1_usedIn : GoodIn wsL_law wsX1_usedIn := goodIn_r _ [343, 49, 29, 197, 198, 199, 5, 200, 164, 78, 79, 80, 51, 52, 53, 54, 606, 607, 608, 609, 610, 611, 612, 613, 614, 615] (by decide +kernel) (by decide +kernel)
set_option maxRecDepth 20000 in
theorem gL_law_X1_usedIn : GoodIn wsL_law (wsV RL 134 RX1 yX1_usedIn wsX1_usedIn) := goodIn_app (goodIn_of _ (by decide +kernel)) ggL_law_X1_usedIn
set_option maxRecDepth 20000 in
theorem ggL_law_L_isSmudged : GoodIn wsL_law wsL_isSmudged := goodIn_ca (goodIn_r _ [346, 84, 347, 348, 349, 2, 350, 18, 189, 190, 191, 192, 93, 94, 14, 596, 597, 598, 599, 600, 601, 602, 603, 604, 605] (by decide +kernel) (by decide +kernel)) (goodIn_sub (fun _ h => List.mem_append_right _ h) (by decide +kernel))
set_option maxRecDepth 20000 in
theorem gL_law_L_isSmudged : GoodIn wsL_law (va_wsS RL 135 yL_isSmudged wsL_isSmudged) := goodIn_app (goodIn_of _ (by decide +kernel)) ggL_law_L_isSmudged
set_option maxRecDepth 20000 in
theorem ggL_law_X1_isSmudged : GoodIn wsL_law wsX1_isSmudged := goodIn_r _ [354, 49, 30, 197, 198, 199, 5, 200, 164, 78, 79, 80, 275, 276, 277, 278, 606, 607, 608, 609, 610, 611, 612, 613, 614, 615] (by decide +kernel) (by decide +kernel)
set_option maxRecDepth 20000 in
theorem gL_law_X1_isSmudged : GoodIn wsL_law (wsV RL 137 RX1 yX1_isSmudged wsX1_isSmudged) := goodIn_app (goodIn_of _ (by decide +kernel)) ggL_law_X1_isSmudged
set_option maxRecDepth 20000 in
theorem ggL_law_X0_agree : GoodIn wsL_law wsX0_agree := goodIn_r _ [358, 359, 360, 361, 2, 362, 14, 363, 364, 365, 366, 99, 100, 101, 102, 13, 149, 150, 151, 152, 19, 596, 597, 598, 599, 600, 601, 602, 603, 604, 605] (by decide +kernel) (by decide +kernel)
set_option maxRecDepth 20000 in
theorem gL_law_X0_agree : GoodIn wsL_law (wsV RL 138 RX0 yX0_agree wsX0_agree) := goodIn_app (goodIn_of _ (by decide +kernel)) ggL_law_X0_agree
set_option maxRecDepth 20000 in
theorem ggL_law_X1_agree : GoodIn wsL_law wsX1_agree := goodIn_r _ [370, 49, 170, 171, 172, 5, 173, 111, 112, 113, 114, 50, 174, 175, 176, 177, 164, 29, 30, 178, 179, 180, 181, 154, 155, 156, 157, 158, 159, 606, 607, 608, 609, 610, 611, 612, 613, 614, 615] (by decide +kernel) (by decide +kernel)
set_option maxRecDepth 20000 in
theorem gL_law_X1_agree : GoodIn wsL_law (wsV RL 142 RX1 yX1_agree wsX1_agree) := goodIn_app (goodIn_of _ (by decide +kernel)) ggL_law_X1_agree
set_option maxRecDepth 20000 in
theorem ggL_law_X0_astronomers : GoodIn wsL_law wsX0_astronomers := goodIn_r _ [374, 20, 596, 597, 598, 599, 600, 601, 602, 603, 604, 605] (by decide +kernel) (by decide +kernel)
set_option maxRecDepth 20000 in
theorem gL_law_X0_astronomers : GoodIn wsL_law (wsV RL 143 RX0 yX0_astronomers wsX0_astronomers) := goodIn_app (goodIn_of _ (by decide +kernel)) ggL_law_X0_astronomers
set_option maxRecDepth 20000 in
theorem ggL_law_X1_astronomers : GoodIn wsL_law wsX1_astronomers := goodIn_r _ [378, 77, 209, 210, 211, 5, 212, 49, 606, 607, 608, 609, 610, 611, 612, 613, 614, 615] (by decide +kernel) (by decide +kernel)
set_option maxRecDepth 20000 in
theorem gL_law_X1_astronomers : GoodIn wsL_law (wsV RL 146 RX1 yX1_astronomers wsX1_astronomers) := goodIn_app (goodIn_of _ (by decide +kernel)) ggL_law_X1_astronomers
set_option maxRecDepth 20000 in
theorem ggL_law_L_blamedBy : GoodIn wsL_law wsL_blamedBy := goodIn_ca (goodIn_r _ [381, 84, 382, 383, 384, 2, 385, 21, 89, 90, 91, 92, 93, 94, 20, 596, 597, 598, 599, 600, 601, 602, 603, 604, 605] (by decide +kernel) (by decide +kernel)) (goodIn_sub (fun _ h => List.mem_append_right _ h) (by decide +kernel))
set_option maxRecDepth 20000 in
theorem gL_law_L_blamedBy : GoodIn wsL_law (va_wsS RL 147 yL_blamedBy wsL_blamedBy) := goodIn_app (goodIn_of _ (by decide +kernel)) ggL_law_L_blamedBy
set_option maxRecDepth 20000 in
theorem ggL_law_X1_blamedBy : GoodIn wsL_law wsX1_blamedBy := goodIn_r _ [389, 49, 33, 107, 108, 109, 5, 110, 77, 78, 79, 80, 51, 52, 53, 54, 606, 607, 608, 609, 610, 611, 612, 613, 614, 615] (by decide +kernel) (by decide +kernel)
set_option maxRecDepth 20000 in
theorem gL_law_X1_blamedBy : GoodIn wsL_law (wsV RL 149 RX1 yX1_blamedBy wsX1_blamedBy) := goodIn_app (goodIn_of _ (by decide +kernel)) ggL_law_X1_blamedBy
set_option maxRecDepth 20000 in
theorem ggL_law_L_stubbornnessOf : GoodIn wsL_law wsL_stubbornnessOf := goodIn_ca (goodIn_r _ [392, 84, 393, 394, 395, 2, 396, 22, 89, 90, 91, 92, 93, 94, 20, 596, 597, 598, 599, 600, 601, 602, 603, 604, 605] (by decide +kernel) (by decide +kernel)) (goodIn_sub (fun _ h => List.mem_append_right _ h) (by decide +kernel))
set_option maxRecDepth 20000 in
theorem gL_law_L_stubbornnessOf : GoodIn wsL_law (va_wsS RL 150 yL_stubbornnessOf wsL_stubbornnessOf) := goodIn_app (goodIn_of _ (by decide +kernel)) ggL_law_L_stubbornnessOf
set_option maxRecDepth 20000 in
theorem ggL_law_X1_stubbornnessOf : GoodIn wsL_law wsX1_stubbornnessOf := goodIn_r _ [400, 49, 32, 107, 108, 109, 5, 110, 77, 78, 79, 80, 51, 52, 53, 54, 606, 607, 608, 609, 610, 611, 612, 613, 614, 615] (by decide +kernel) (by decide +kernel)
set_option maxRecDepth 20000 in
theorem gL_law_X1_stubbornnessOf : GoodIn wsL_law (wsV RL 152 RX1 yX1_stubbornnessOf wsX1_stubbornnessOf) := goodIn_app (goodIn_of _ (by decide +kernel)) ggL_law_X1_stubbornnessOf
set_option maxRecDepth 20000 in
theorem ggL_law_L_unexplainedBy : GoodIn wsL_law wsL_unexplainedBy := goodIn_ca (goodIn_r _ [403, 84, 404, 405, 406, 2, 407, 21, 89, 90, 91, 92, 93, 94, 20, 149, 150, 151, 152, 19, 596, 597, 598, 599, 600, 601, 602, 603, 604, 605] (by decide +kernel) (by decide +kernel)) (goodIn_sub (fun _ h => List.mem_append_right _ h) (by decide +kernel))
set_option maxRecDepth 20000 in
theorem gL_law_L_unexplainedBy : GoodIn wsL_law (va_wsS RL 153 yL_unexplainedBy wsL_unexplainedBy) := goodIn_app (goodIn_of _ (by decide +kernel)) ggL_law_L_unexplainedBy
set_option maxRecDepth 20000 in
theorem ggL_law_X1_unexplainedBy : GoodIn wsL_law wsX1_unexplainedBy := goodIn_r _ [411, 49, 33, 107, 108, 109, 5, 110, 77, 78, 79, 80, 174, 175, 176, 177, 164, 29, 30, 178, 179, 180, 51, 52, 53, 54, 606, 607, 608, 609, 610, 611, 612, 613, 614, 615] (by decide +kernel) (by decide +kernel)
set_option maxRecDepth 20000 in
theorem gL_law_X1_unexplainedBy : GoodIn wsL_law (wsV RL 155 RX1 yX1_unexplainedBy wsX1_unexplainedBy) := goodIn_app (goodIn_of _ (by decide +kernel)) ggL_law_X1_unexplainedBy
set_option maxRecDepth 20000 in
theorem ggL_law_L_votesFor : GoodIn wsL_law wsL_votesFor := goodIn_ca (goodIn_r _ [414, 84, 415, 416, 417, 2, 418, 20, 21, 220, 221, 222, 223, 93, 94, 13, 224, 225, 226, 227, 228, 229, 596, 597, 598, 599, 600, 601, 602, 603, 604, 605] (by decide +kernel) (by decide +kernel)) (goodIn_sub (fun _ h => List.mem_append_right _ h) (by decide +kernel))
set_option maxRecDepth 20000 in
theorem gL_law_L_votesFor : GoodIn wsL_law (va_wsS RL 156 yL_votesFor wsL_votesFor) := goodIn_app (goodIn_of _ (by decide +kernel)) ggL_law_L_votesFor
set_option maxRecDepth 20000 in
theorem ggL_law_X1_votesFor : GoodIn wsL_law wsX1_votesFor := goodIn_r _ [422, 49, 234, 235, 236, 5, 237, 50, 78, 79, 80, 423, 424, 425, 426, 77, 33, 242, 243, 244, 51, 52, 53, 54, 606, 607, 608, 609, 610, 611, 612, 613, 614, 615] (by decide +kernel) (by decide +kernel)
set_option maxRecDepth 20000 in
theorem gL_law_X1_votesFor : GoodIn wsL_law (wsV RL 158 RX1 yX1_votesFor wsX1_votesFor) := goodIn_app (goodIn_of _ (by decide +kernel)) ggL_law_X1_votesFor
set_option maxRecDepth 20000 in
theorem ggL_law_X0_vote : GoodIn wsL_law wsX0_vote := goodIn_ca (goodIn_r _ [430, 13, 20, 431, 416, 417, 2, 418, 21, 220, 221, 222, 223, 93, 94, 224, 225, 226, 227, 228, 229, 596, 597, 598, 599, 600, 601, 602, 603, 604, 605] (by decide +kernel) (by decide +kernel)) (goodIn_sub (fun _ h => List.mem_append_right _ h) (by decide +kernel))
set_option maxRecDepth 20000 in
theorem gL_law_X0_vote : GoodIn wsL_law (wsV RL 159 RX0 yX0_vote wsX0_vote) := goodIn_app (goodIn_of _ (by decide +kernel)) ggL_law_X0_vote
set_option maxRecDepth 20000 in
theorem ggL_law_X1_vote : GoodIn wsL_law wsX1_vote := goodIn_r _ [435, 436, 437, 438, 5, 439, 50, 77, 423, 424, 425, 426, 33, 242, 243, 244, 209, 210, 211, 212, 49, 606, 607, 608, 609, 610, 611, 612, 613, 614, 615] (by decide +kernel) (by decide +kernel)
set_option maxRecDepth 20000 in
theorem gL_law_X1_vote : GoodIn wsL_law (wsV RL 162 RX1 yX1_vote wsX1_vote) := goodIn_app (goodIn_of _ (by decide +kernel)) ggL_law_X1_vote
set_option maxRecDepth 20000 in
theorem ggL_law_X0_changesOfMind : GoodIn wsL_law wsX0_changesOfMind := goodIn_r _ [443, 24, 596, 597, 598, 599, 600, 601, 602, 603, 604, 605] (by decide +kernel) (by decide +kernel)
set_option maxRecDepth 20000 in
theorem gL_law_X0_changesOfMind : GoodIn wsL_law (wsV RL 163 RX0 yX0_changesOfMind wsX0_changesOfMind) := goodIn_app (goodIn_of _ (by decide +kernel)) ggL_law_X0_changesOfMind
set_option maxRecDepth 20000 in
theorem ggL_law_X1_changesOfMind : GoodIn wsL_law wsX1_changesOfMind := goodIn_r _ [447, 165, 209, 210, 211, 5, 212, 49, 606, 607, 608, 609, 610, 611, 612, 613, 614, 615] (by decide +kernel) (by decide +kernel)
set_option maxRecDepth 20000 in
theorem gL_law_X1_changesOfMind : GoodIn wsL_law (wsV RL 166 RX1 yX1_changesOfMind wsX1_changesOfMind) := goodIn_app (goodIn_of _ (by decide +kernel)) ggL_law_X1_changesOfMind
set_option maxRecDepth 20000 in
theorem ggL_law_L_explainsAll : GoodIn wsL_law wsL_explainsAll := goodIn_ca (goodIn_r _ [450, 62, 451, 452, 453, 2, 454, 95, 96, 97, 98, 67, 68, 99, 100, 101, 102, 13, 149, 150, 151, 152, 19, 596, 597, 598, 599, 600, 601, 602, 603, 604, 605] (by decide +kernel) (by decide +kernel)) (goodIn_sub (fun _ h => List.mem_append_left _ (List.mem_append_right _ h)) (by decide +kernel))
set_option maxRecDepth 20000 in
theorem gL_law_L_explainsAll : GoodIn wsL_law (va_wsS RL 167 yL_explainsAll wsL_explainsAll) := goodIn_app (goodIn_of _ (by decide +kernel)) ggL_law_L_explainsAll
set_option maxRecDepth 20000 in
theorem ggL_law_X1_explainsAll : GoodIn wsL_law wsX1_explainsAll := goodIn_r _ [458, 49, 111, 112, 113, 5, 114, 50, 78, 79, 80, 174, 175, 176, 177, 164, 29, 30, 178, 179, 180, 275, 276, 277, 278, 606, 607, 608, 609, 610, 611, 612, 613, 614, 615] (by decide +kernel) (by decide +kernel)
set_option maxRecDepth 20000 in
theorem gL_law_X1_explainsAll : GoodIn wsL_law (wsV RL 169 RX1 yX1_explainsAll wsX1_explainsAll) := goodIn_app (goodIn_of _ (by decide +kernel)) ggL_law_X1_explainsAll
set_option maxRecDepth 20000 in
theorem ggL_law_X0_explanations : GoodIn wsL_law wsX0_explanations := goodIn_r _ [462, 99, 100, 101, 2, 102, 13, 149, 150, 151, 152, 19, 596, 597, 598, 599, 600, 601, 602, 603, 604, 605] (by decide +kernel) (by decide +kernel)
set_option maxRecDepth 20000 in
theorem gL_law_X0_explanations : GoodIn wsL_law (wsV RL 170 RX0 yX0_explanations wsX0_explanations) := goodIn_app (goodIn_of _ (by decide +kernel)) ggL_law_X0_explanations
set_option maxRecDepth 20000 in
theorem ggL_law_X1_explanations : GoodIn wsL_law wsX1_explanations := goodIn_r _ [466, 467, 468, 469, 5, 470, 111, 112, 113, 114, 50, 174, 175, 176, 177, 164, 29, 30, 178, 179, 180, 209, 210, 211, 212, 49, 606, 607, 608, 609, 610, 611, 612, 613, 614, 615] (by decide +kernel) (by decide +kernel)
set_option maxRecDepth 20000 in
theorem gL_law_X1_explanations : GoodIn wsL_law (wsV RL 173 RX1 yX1_explanations wsX1_explanations) := goodIn_app (goodIn_of _ (by decide +kernel)) ggL_law_X1_explanations
set_option maxRecDepth 20000 in
theorem ggL_law_X0_simplest : GoodIn wsL_law wsX0_simplest := goodIn_r _ [148, 99, 100, 101, 2, 102, 13, 149, 150, 151, 152, 19, 153, 154, 155, 156, 157, 158, 159, 596, 597, 598, 599, 600, 601, 602, 603, 604, 605] (by decide +kernel) (by decide +kernel)
set_option maxRecDepth 20000 in
theorem gL_law_X0_simplest : GoodIn wsL_law (wsV RL 174 RX0 yX0_simplest wsX0_simplest) := goodIn_app (goodIn_of _ (by decide +kernel)) ggL_law_X0_simplest
set_option maxRecDepth 20000 in
theorem ggL_law_X1_simplest : GoodIn wsL_law wsX1_simplest := goodIn_r _ [475, 170, 171, 172, 5, 173, 111, 112, 113, 114, 50, 174, 175, 176, 177, 164, 29, 30, 178, 179, 180, 181, 154, 155, 156, 157, 158, 159, 209, 210, 211, 212, 49, 606, 607, 608, 609, 610, 611, 612, 613, 614, 615] (by decide +kernel) (by decide +kernel)
set_option maxRecDepth 20000 in
theorem gL_law_X1_simplest : GoodIn wsL_law (wsV RL 177 RX1 yX1_simplest wsX1_simplest) := goodIn_app (goodIn_of _ (by decide +kernel)) ggL_law_X1_simplest
set_option maxRecDepth 20000 in
theorem ggL_law_X0_surelyToBlame : GoodIn wsL_law wsX0_surelyToBlame := goodIn_r _ [479, 480, 356, 357, 2, 358, 359, 360, 361, 362, 14, 363, 364, 365, 366, 99, 100, 101, 102, 13, 149, 150, 151, 152, 19, 596, 597, 598, 599, 600, 601, 602, 603, 604, 605] (by decide +kernel) (by decide +kernel)
set_option maxRecDepth 20000 in
theorem gL_law_X0_surelyToBlame : GoodIn wsL_law (wsV RL 178 RX0 yX0_surelyToBlame wsX0_surelyToBlame) := goodIn_app (goodIn_of _ (by decide +kernel)) ggL_law_X0_surelyToBlame
set_option maxRecDepth 20000 in
theorem ggL_law_X1_surelyToBlame : GoodIn wsL_law wsX1_surelyToBlame := goodIn_r _ [484, 485, 486, 487, 5, 488, 111, 112, 113, 114, 50, 174, 175, 176, 177, 164, 29, 30, 178, 179, 180, 209, 210, 211, 212, 49, 606, 607, 608, 609, 610, 611, 612, 613, 614, 615] (by decide +kernel) (by decide +kernel)
set_option maxRecDepth 20000 in
theorem gL_law_X1_surelyToBlame : GoodIn wsL_law (wsV RL 181 RX1 yX1_surelyToBlame wsX1_surelyToBlame) := goodIn_app (goodIn_of _ (by decide +kernel)) ggL_law_X1_surelyToBlame
set_option maxRecDepth 20000 in
theorem ggL_law_X0_nightsToDoubt : GoodIn wsL_law wsX0_nightsToDoubt := goodIn_r _ [362, 14, 363, 364, 365, 366, 99, 100, 101, 2, 102, 13, 149, 150, 151, 152, 19, 596, 597, 598, 599, 600, 601, 602, 603, 604, 605] (by decide +kernel) (by decide +kernel)
set_option maxRecDepth 20000 in
theorem gL_law_X0_nightsToDoubt : GoodIn wsL_law (wsV RL 182 RX0 yX0_nightsToDoubt wsX0_nightsToDoubt) := goodIn_app (goodIn_of _ (by decide +kernel)) ggL_law_X0_nightsToDoubt
set_option maxRecDepth 20000 in
theorem ggL_law_X1_nightsToDoubt : GoodIn wsL_law wsX1_nightsToDoubt := goodIn_r _ [493, 49, 164, 494, 364, 365, 366, 111, 112, 113, 5, 114, 50, 174, 175, 176, 177, 29, 30, 178, 179, 180, 606, 607, 608, 609, 610, 611, 612, 613, 614, 615] (by decide +kernel) (by decide +kernel)
set_option maxRecDepth 20000 in
theorem gL_law_X1_nightsToDoubt : GoodIn wsL_law (wsV RL 185 RX1 yX1_nightsToDoubt wsX1_nightsToDoubt) := goodIn_app (goodIn_of _ (by decide +kernel)) ggL_law_X1_nightsToDoubt
set_option maxRecDepth 20000 in
theorem ggL_law_L_leftIfSmudged : GoodIn wsL_law wsL_leftIfSmudged := goodIn_ca (goodIn_r _ [497, 62, 498, 499, 500, 2, 501, 126, 127, 128, 129, 67, 68, 99, 100, 101, 102, 13, 301, 302, 303, 304, 149, 150, 151, 152, 19, 596, 597, 598, 599, 600, 601, 602, 603, 604, 605] (by decide +kernel) (by decide +kernel)) (goodIn_sub (fun _ h => List.mem_append_left _ (List.mem_append_right _ h)) (by decide +kernel))
set_option maxRecDepth 20000 in
theorem gL_law_L_leftIfSmudged : GoodIn wsL_law (va_wsS RL 186 yL_leftIfSmudged wsL_leftIfSmudged) := goodIn_app (goodIn_of _ (by decide +kernel)) ggL_law_L_leftIfSmudged
set_option maxRecDepth 20000 in
theorem ggL_law_X1_leftIfSmudged : GoodIn wsL_law wsX1_leftIfSmudged := goodIn_r _ [505, 49, 111, 112, 113, 5, 114, 50, 78, 79, 80, 506, 507, 508, 509, 174, 175, 176, 177, 164, 29, 30, 178, 179, 180, 51, 52, 53, 54, 606, 607, 608, 609, 610, 611, 612, 613, 614, 615] (by decide +kernel) (by decide +kernel)
set_option maxRecDepth 20000 in
theorem gL_law_X1_leftIfSmudged : GoodIn wsL_law (wsV RL 188 RX1 yX1_leftIfSmudged wsX1_leftIfSmudged) := goodIn_app (goodIn_of _ (by decide +kernel)) ggL_law_X1_leftIfSmudged
set_option maxRecDepth 20000 in
theorem ggL_law_X0_bestNight : GoodIn wsL_law wsX0_bestNight := goodIn_r _ [513, 514, 515, 365, 516, 517, 460, 461, 2, 462, 99, 100, 101, 102, 13, 149, 150, 151, 152, 19, 301, 302, 303, 304, 596, 597, 598, 599, 600, 601, 602, 603, 604, 605] (by decide +kernel) (by decide +kernel)
set_option maxRecDepth 20000 in
theorem gL_law_X0_bestNight : GoodIn wsL_law (wsV RL 189 RX0 yX0_bestNight wsX0_bestNight) := goodIn_app (goodIn_of _ (by decide +kernel)) ggL_law_X0_bestNight
set_option maxRecDepth 20000 in
theorem ggL_law_X1_bestNight : GoodIn wsL_law wsX1_bestNight := goodIn_r _ [521, 49, 522, 515, 365, 516, 467, 468, 469, 5, 470, 111, 112, 113, 114, 50, 174, 175, 176, 177, 164, 29, 30, 178, 179, 180, 506, 507, 508, 509, 606, 607, 608, 609, 610, 611, 612, 613, 614, 615] (by decide +kernel) (by decide +kernel)
set_option maxRecDepth 20000 in
theorem gL_law_X1_bestNight : GoodIn wsL_law (wsV RL 192 RX1 yX1_bestNight wsX1_bestNight) := goodIn_app (goodIn_of _ (by decide +kernel)) ggL_law_X1_bestNight
set_option maxRecDepth 20000 in
theorem ggL_law_L_wouldChange : GoodIn wsL_law wsL_wouldChange := goodIn_ca (goodIn_ca (goodIn_r _ [525, 62, 38, 526, 527, 528, 2, 529, 20, 21, 22, 126, 127, 128, 129, 67, 68, 99, 100, 101, 102, 13, 130, 131, 132, 133, 43, 44, 14, 530, 531, 532, 533, 149, 150, 151, 152, 19, 138, 139, 140, 596, 597, 598, 599, 600, 601, 602, 603, 604, 605] (by decide +kernel) (by decide +kernel)) (goodIn_sub (fun _ h => List.mem_append_left _ (List.mem_append_right _ h)) (by decide +kernel))) (goodIn_sub (fun _ h => List.mem_append_left _ (List.mem_append_left _ (List.mem_append_right _ h))) (by decide +kernel))
set_option maxRecDepth 20000 in
theorem gL_law_L_wouldChange : GoodIn wsL_law (va_wsS RL 193 yL_wouldChange wsL_wouldChange) := goodIn_app (goodIn_of _ (by decide +kernel)) ggL_law_L_wouldChange
set_option maxRecDepth 20000 in
theorem ggL_law_X1_wouldChange : GoodIn wsL_law wsX1_wouldChange := goodIn_r _ [537, 49, 164, 77, 32, 33, 111, 112, 113, 5, 114, 50, 78, 79, 80, 51, 52, 53, 54, 166, 167, 168, 169, 29, 30, 170, 171, 172, 173, 174, 175, 176, 177, 178, 179, 180, 181, 154, 155, 156, 157, 158, 159, 606, 607, 608, 609, 610, 611, 612, 613, 614, 615] (by decide +kernel) (by decide +kernel)
set_option maxRecDepth 20000 in
theorem gL_law_X1_wouldChange : GoodIn wsL_law (wsV RL 195 RX1 yX1_wouldChange wsX1_wouldChange) := goodIn_app (goodIn_of _ (by decide +kernel)) ggL_law_X1_wouldChange
set_option maxRecDepth 20000 in
theorem ggL_law_X0_meanBlame : GoodIn wsL_law wsX0_meanBlame := goodIn_r _ [541, 20, 21, 153, 154, 155, 156, 157, 158, 159, 596, 597, 598, 599, 600, 601, 602, 603, 604, 605] (by decide +kernel) (by decide +kernel)
set_option maxRecDepth 20000 in
theorem gL_law_X0_meanBlame : GoodIn wsL_law (wsV RL 196 RX0 yX0_meanBlame wsX0_meanBlame) := goodIn_app (goodIn_of _ (by decide +kernel)) ggL_law_X0_meanBlame
set_option maxRecDepth 20000 in
theorem ggL_law_X1_meanBlame : GoodIn wsL_law wsX1_meanBlame := goodIn_r _ [545, 49, 77, 33, 181, 154, 155, 156, 157, 158, 159, 606, 607, 608, 609, 610, 611, 612, 613, 614, 615] (by decide +kernel) (by decide +kernel)
set_option maxRecDepth 20000 in
theorem gL_law_X1_meanBlame : GoodIn wsL_law (wsV RL 200 RX1 yX1_meanBlame wsX1_meanBlame) := goodIn_app (goodIn_of _ (by decide +kernel)) ggL_law_X1_meanBlame
set_option maxRecDepth 20000 in
theorem ggL_law_X0_digest : GoodIn wsL_law wsX0_digest := goodIn_ca (goodIn_r _ [549, 550, 551, 202, 203, 2, 204, 13, 552, 553, 554, 555, 556, 314, 315, 316, 14, 557, 322, 323, 324, 18, 480, 356, 357, 358, 359, 360, 361, 362, 363, 364, 365, 366, 99, 100, 101, 102, 149, 150, 151, 152, 19, 558, 559, 560, 561, 372, 373, 374, 20, 562, 428, 429, 430, 431, 416, 417, 418, 21, 220, 221, 222, 223, 93, 94, 224, 225, 226, 227, 228, 229, 563, 441, 442, 443, 24, 517, 460, 461, 462, 145, 146, 147, 148, 153, 154, 155, 156, 157, 158, 159, 564, 477, 478, 479, 565, 566, 567, 568, 569, 217, 218, 219, 16, 570, 249, 250, 251, 571, 260, 261, 262, 263, 264, 265, 266, 572, 283, 284, 285, 573, 298, 299, 300, 301, 302, 303, 304, 574, 575, 576, 577, 578, 337, 338, 339, 189, 190, 191, 192, 579, 348, 349, 350, 580, 581, 582, 583, 584, 383, 384, 385, 89, 90, 91, 92, 585, 394, 395, 396, 22, 586, 405, 406, 407, 596, 597, 598, 599, 600, 601, 602, 603, 604, 605] (by decide +kernel) (by decide +kernel)) (goodIn_sub (fun _ h => List.mem_append_right _ h) (by decide +kernel))
set_option maxRecDepth 20000 in
theorem gL_law_X0_digest : GoodIn wsL_law (wsV RL 201 RX0 yX0_digest wsX0_digest) := goodIn_app (goodIn_of _ (by decide +kernel)) ggL_law_X0_digest
set_option maxRecDepth 20000 in
theorem ggL_law_X1_digest : GoodIn wsL_law wsX1_digest := goodIn_r _ [590, 49, 15, 50, 164, 77, 165, 591, 592, 29, 30, 33, 32, 329, 330, 331, 5, 332, 170, 171, 172, 173, 111, 112, 113, 114, 174, 175, 176, 177, 178, 179, 180, 181, 154, 155, 156, 157, 158, 159, 593, 594, 595, 436, 437, 438, 439, 423, 424, 425, 426, 242, 243, 244, 467, 468, 469, 470, 485, 486, 487, 488, 238, 239, 240, 241, 271, 272, 273, 274, 290, 291, 292, 293, 309, 310, 311, 312, 606, 607, 608, 609, 610, 611, 612, 613, 614, 615] (by decide +kernel) (by decide +kernel)
set_option maxRecDepth 20000 in
theorem gL_law_X1_digest : GoodIn wsL_law (wsV RL 205 RX1 yX1_digest wsX1_digest) := goodIn_app (goodIn_of _ (by decide +kernel)) ggL_law_X1_digest
theorem dL_law_0 : decode cL_law 0 = .ok (.new 8, 3) := by decide +kernel
theorem dL_law_3 : decode cL_law 3 = .ok (.dup, 1) := by decide +kernel
theorem dL_law_4 : decode cL_law 4 = .ok (.invokespecial 77, 3) := by decide +kernel
theorem dL_law_7 : decode cL_law 7 = .ok (.astore_n 1, 1) := by decide +kernel
theorem dL_law_8 : decode cL_law 8 = .ok (.new 78, 3) := by decide +kernel
theorem dL_law_11 : decode cL_law 11 = .ok (.dup, 1) := by decide +kernel
theorem dL_law_12 : decode cL_law 12 = .ok (.invokespecial 80, 3) := by decide +kernel
theorem dL_law_15 : decode cL_law 15 = .ok (.astore_n 2, 1) := by decide +kernel
theorem dL_law_16 : decode cL_law 16 = .ok (.iconst 1, 1) := by decide +kernel
theorem dL_law_17 : decode cL_law 17 = .ok (.newarray .long, 2) := by decide +kernel
theorem dL_law_19 : decode cL_law 19 = .ok (.astore_n 3, 1) := by decide +kernel
theorem dL_law_20 : decode cL_law 20 = .ok (.iconst 0, 1) := by decide +kernel
theorem dL_law_21 : decode cL_law 21 = .ok (.istore 4, 2) := by decide +kernel
theorem dL_law_23 : decode cL_law 23 = .ok (.iload 4, 2) := by decide +kernel
theorem dL_law_25 : decode cL_law 25 = .ok (.aload_n 0, 1) := by decide +kernel
theorem dL_law_26 : decode cL_law 26 = .ok (.arraylength, 1) := by decide +kernel
theorem dL_law_27 : decode cL_law 27 = .ok (.iconst 3, 1) := by decide +kernel
theorem dL_law_28 : decode cL_law 28 = .ok (.isub, 1) := by decide +kernel
theorem dL_law_29 : decode cL_law 29 = .ok (.if_icmp .gt 1520, 3) := by decide +kernel
theorem dL_law_32 : decode cL_law 32 = .ok (.aload_n 0, 1) := by decide +kernel
theorem dL_law_33 : decode cL_law 33 = .ok (.iload 4, 2) := by decide +kernel
theorem dL_law_35 : decode cL_law 35 = .ok (.iaload, 1) := by decide +kernel
theorem dL_law_36 : decode cL_law 36 = .ok (.bipush 63, 2) := by decide +kernel
theorem dL_law_38 : decode cL_law 38 = .ok (.iand, 1) := by decide +kernel
theorem dL_law_39 : decode cL_law 39 = .ok (.tableswitch 1504 0 32 #[145, 189, 245, 313, 397, 453, 466, 522, 578, 641, 704, 760, 773, 786, 842, 905, 918, 931, 987, 1043, 1099, 1155, 1168, 1181, 1244, 1257, 1270, 1283, 1296, 1352, 1365, 1449, 1490], 145) := by decide +kernel
theorem dL_law_184 : decode cL_law 184 = .ok (.aload_n 1, 1) := by decide +kernel
theorem dL_law_185 : decode cL_law 185 = .ok (.aload_n 3, 1) := by decide +kernel
theorem dL_law_186 : decode cL_law 186 = .ok (.invokestatic 81, 3) := by decide +kernel
theorem dL_law_189 : decode cL_law 189 = .ok (.istore 5, 2) := by decide +kernel
theorem dL_law_191 : decode cL_law 191 = .ok (.aload_n 2, 1) := by decide +kernel
theorem dL_law_192 : decode cL_law 192 = .ok (.invokevirtual 86, 3) := by decide +kernel
theorem dL_law_195 : decode cL_law 195 = .ok (.istore 6, 2) := by decide +kernel
theorem dL_law_197 : decode cL_law 197 = .ok (.aload_n 2, 1) := by decide +kernel
theorem dL_law_198 : decode cL_law 198 = .ok (.invokevirtual 87, 3) := by decide +kernel
theorem dL_law_201 : decode cL_law 201 = .ok (.iload 5, 2) := by decide +kernel
theorem dL_law_203 : decode cL_law 203 = .ok (.if_icmp .eq 5, 3) := by decide +kernel
theorem dL_law_206 : decode cL_law 206 = .ok (.iconst 0, 1) := by decide +kernel
theorem dL_law_207 : decode cL_law 207 = .ok (.ireturn, 1) := by decide +kernel
theorem dL_law_208 : decode cL_law 208 = .ok (.iload 5, 2) := by decide +kernel
theorem dL_law_210 : decode cL_law 210 = .ok (.ifCond .ne 15, 3) := by decide +kernel
theorem dL_law_213 : decode cL_law 213 = .ok (.aload_n 3, 1) := by decide +kernel
theorem dL_law_214 : decode cL_law 214 = .ok (.iconst 0, 1) := by decide +kernel
theorem dL_law_215 : decode cL_law 215 = .ok (.laload, 1) := by decide +kernel
theorem dL_law_216 : decode cL_law 216 = .ok (.iload 6, 2) := by decide +kernel
theorem dL_law_218 : decode cL_law 218 = .ok (.i2l, 1) := by decide +kernel
theorem dL_law_219 : decode cL_law 219 = .ok (.lcmp, 1) := by decide +kernel
theorem dL_law_220 : decode cL_law 220 = .ok (.ifCond .eq 5, 3) := by decide +kernel
theorem dL_law_223 : decode cL_law 223 = .ok (.iconst 0, 1) := by decide +kernel
theorem dL_law_224 : decode cL_law 224 = .ok (.ireturn, 1) := by decide +kernel
theorem dL_law_225 : decode cL_law 225 = .ok (.goto 1318, 3) := by decide +kernel
theorem dL_law_228 : decode cL_law 228 = .ok (.aload_n 1, 1) := by decide +kernel
theorem dL_law_229 : decode cL_law 229 = .ok (.aload_n 0, 1) := by decide +kernel
theorem dL_law_230 : decode cL_law 230 = .ok (.iload 4, 2) := by decide +kernel
theorem dL_law_232 : decode cL_law 232 = .ok (.iconst 1, 1) := by decide +kernel
theorem dL_law_233 : decode cL_law 233 = .ok (.iadd, 1) := by decide +kernel
theorem dL_law_234 : decode cL_law 234 = .ok (.iaload, 1) := by decide +kernel
theorem dL_law_235 : decode cL_law 235 = .ok (.aload_n 3, 1) := by decide +kernel
theorem dL_law_236 : decode cL_law 236 = .ok (.invokestatic 90, 3) := by decide +kernel
theorem dL_law_239 : decode cL_law 239 = .ok (.istore 5, 2) := by decide +kernel
theorem dL_law_241 : decode cL_law 241 = .ok (.aload_n 2, 1) := by decide +kernel
theorem dL_law_242 : decode cL_law 242 = .ok (.aload_n 0, 1) := by decide +kernel
theorem dL_law_243 : decode cL_law 243 = .ok (.iload 4, 2) := by decide +kernel
theorem dL_law_245 : decode cL_law 245 = .ok (.iconst 1, 1) := by decide +kernel
theorem dL_law_246 : decode cL_law 246 = .ok (.iadd, 1) := by decide +kernel
theorem dL_law_247 : decode cL_law 247 = .ok (.iaload, 1) := by decide +kernel
theorem dL_law_248 : decode cL_law 248 = .ok (.invokevirtual 93, 3) := by decide +kernel
theorem dL_law_251 : decode cL_law 251 = .ok (.istore 6, 2) := by decide +kernel
theorem dL_law_253 : decode cL_law 253 = .ok (.aload_n 2, 1) := by decide +kernel
theorem dL_law_254 : decode cL_law 254 = .ok (.invokevirtual 87, 3) := by decide +kernel
theorem dL_law_257 : decode cL_law 257 = .ok (.iload 5, 2) := by decide +kernel
theorem dL_law_259 : decode cL_law 259 = .ok (.if_icmp .eq 5, 3) := by decide +kernel
theorem dL_law_262 : decode cL_law 262 = .ok (.iconst 0, 1) := by decide +kernel
theorem dL_law_263 : decode cL_law 263 = .ok (.ireturn, 1) := by decide +kernel
theorem dL_law_264 : decode cL_law 264 = .ok (.iload 5, 2) := by decide +kernel
theorem dL_law_266 : decode cL_law 266 = .ok (.ifCond .ne 15, 3) := by decide +kernel
theorem dL_law_269 : decode cL_law 269 = .ok (.aload_n 3, 1) := by decide +kernel
theorem dL_law_270 : decode cL_law 270 = .ok (.iconst 0, 1) := by decide +kernel
theorem dL_law_271 : decode cL_law 271 = .ok (.laload, 1) := by decide +kernel
theorem dL_law_272 : decode cL_law 272 = .ok (.iload 6, 2) := by decide +kernel
theorem dL_law_274 : decode cL_law 274 = .ok (.i2l, 1) := by decide +kernel
theorem dL_law_275 : decode cL_law 275 = .ok (.lcmp, 1) := by decide +kernel
theorem dL_law_276 : decode cL_law 276 = .ok (.ifCond .eq 5, 3) := by decide +kernel
theorem dL_law_279 : decode cL_law 279 = .ok (.iconst 0, 1) := by decide +kernel
theorem dL_law_280 : decode cL_law 280 = .ok (.ireturn, 1) := by decide +kernel
theorem dL_law_281 : decode cL_law 281 = .ok (.goto 1262, 3) := by decide +kernel
theorem dL_law_284 : decode cL_law 284 = .ok (.aload_n 1, 1) := by decide +kernel
theorem dL_law_285 : decode cL_law 285 = .ok (.aload_n 0, 1) := by decide +kernel
theorem dL_law_286 : decode cL_law 286 = .ok (.iload 4, 2) := by decide +kernel
theorem dL_law_288 : decode cL_law 288 = .ok (.iconst 1, 1) := by decide +kernel
theorem dL_law_289 : decode cL_law 289 = .ok (.iadd, 1) := by decide +kernel
theorem dL_law_290 : decode cL_law 290 = .ok (.iaload, 1) := by decide +kernel
theorem dL_law_291 : decode cL_law 291 = .ok (.aload_n 0, 1) := by decide +kernel
theorem dL_law_292 : decode cL_law 292 = .ok (.iload 4, 2) := by decide +kernel
theorem dL_law_294 : decode cL_law 294 = .ok (.iconst 2, 1) := by decide +kernel
theorem dL_law_295 : decode cL_law 295 = .ok (.iadd, 1) := by decide +kernel
theorem dL_law_296 : decode cL_law 296 = .ok (.iaload, 1) := by decide +kernel
theorem dL_law_297 : decode cL_law 297 = .ok (.aload_n 3, 1) := by decide +kernel
theorem dL_law_298 : decode cL_law 298 = .ok (.invokestatic 94, 3) := by decide +kernel
theorem dL_law_301 : decode cL_law 301 = .ok (.istore 5, 2) := by decide +kernel
theorem dL_law_303 : decode cL_law 303 = .ok (.aload_n 2, 1) := by decide +kernel
theorem dL_law_304 : decode cL_law 304 = .ok (.aload_n 0, 1) := by decide +kernel
theorem dL_law_305 : decode cL_law 305 = .ok (.iload 4, 2) := by decide +kernel
theorem dL_law_307 : decode cL_law 307 = .ok (.iconst 1, 1) := by decide +kernel
theorem dL_law_308 : decode cL_law 308 = .ok (.iadd, 1) := by decide +kernel
theorem dL_law_309 : decode cL_law 309 = .ok (.iaload, 1) := by decide +kernel
theorem dL_law_310 : decode cL_law 310 = .ok (.aload_n 0, 1) := by decide +kernel
theorem dL_law_311 : decode cL_law 311 = .ok (.iload 4, 2) := by decide +kernel
theorem dL_law_313 : decode cL_law 313 = .ok (.iconst 2, 1) := by decide +kernel
theorem dL_law_314 : decode cL_law 314 = .ok (.iadd, 1) := by decide +kernel
theorem dL_law_315 : decode cL_law 315 = .ok (.iaload, 1) := by decide +kernel
theorem dL_law_316 : decode cL_law 316 = .ok (.invokevirtual 97, 3) := by decide +kernel
theorem dL_law_319 : decode cL_law 319 = .ok (.istore 6, 2) := by decide +kernel
theorem dL_law_321 : decode cL_law 321 = .ok (.aload_n 2, 1) := by decide +kernel
theorem dL_law_322 : decode cL_law 322 = .ok (.invokevirtual 87, 3) := by decide +kernel
theorem dL_law_325 : decode cL_law 325 = .ok (.iload 5, 2) := by decide +kernel
theorem dL_law_327 : decode cL_law 327 = .ok (.if_icmp .eq 5, 3) := by decide +kernel
theorem dL_law_330 : decode cL_law 330 = .ok (.iconst 0, 1) := by decide +kernel
theorem dL_law_331 : decode cL_law 331 = .ok (.ireturn, 1) := by decide +kernel
theorem dL_law_332 : decode cL_law 332 = .ok (.iload 5, 2) := by decide +kernel
theorem dL_law_334 : decode cL_law 334 = .ok (.ifCond .ne 15, 3) := by decide +kernel
theorem dL_law_337 : decode cL_law 337 = .ok (.aload_n 3, 1) := by decide +kernel
theorem dL_law_338 : decode cL_law 338 = .ok (.iconst 0, 1) := by decide +kernel
theorem dL_law_339 : decode cL_law 339 = .ok (.laload, 1) := by decide +kernel
theorem dL_law_340 : decode cL_law 340 = .ok (.iload 6, 2) := by decide +kernel
theorem dL_law_342 : decode cL_law 342 = .ok (.i2l, 1) := by decide +kernel
theorem dL_law_343 : decode cL_law 343 = .ok (.lcmp, 1) := by decide +kernel
theorem dL_law_344 : decode cL_law 344 = .ok (.ifCond .eq 5, 3) := by decide +kernel
theorem dL_law_347 : decode cL_law 347 = .ok (.iconst 0, 1) := by decide +kernel
theorem dL_law_348 : decode cL_law 348 = .ok (.ireturn, 1) := by decide +kernel
theorem dL_law_349 : decode cL_law 349 = .ok (.goto 1194, 3) := by decide +kernel
theorem dL_law_352 : decode cL_law 352 = .ok (.aload_n 1, 1) := by decide +kernel
theorem dL_law_353 : decode cL_law 353 = .ok (.aload_n 0, 1) := by decide +kernel
theorem dL_law_354 : decode cL_law 354 = .ok (.iload 4, 2) := by decide +kernel
theorem dL_law_356 : decode cL_law 356 = .ok (.iconst 1, 1) := by decide +kernel
theorem dL_law_357 : decode cL_law 357 = .ok (.iadd, 1) := by decide +kernel
theorem dL_law_358 : decode cL_law 358 = .ok (.iaload, 1) := by decide +kernel
theorem dL_law_359 : decode cL_law 359 = .ok (.aload_n 0, 1) := by decide +kernel
theorem dL_law_360 : decode cL_law 360 = .ok (.iload 4, 2) := by decide +kernel
theorem dL_law_362 : decode cL_law 362 = .ok (.iconst 2, 1) := by decide +kernel
theorem dL_law_363 : decode cL_law 363 = .ok (.iadd, 1) := by decide +kernel
theorem dL_law_364 : decode cL_law 364 = .ok (.iaload, 1) := by decide +kernel
theorem dL_law_365 : decode cL_law 365 = .ok (.ifCond .eq 7, 3) := by decide +kernel
theorem dL_law_368 : decode cL_law 368 = .ok (.iconst 1, 1) := by decide +kernel
theorem dL_law_369 : decode cL_law 369 = .ok (.goto 4, 3) := by decide +kernel
theorem dL_law_372 : decode cL_law 372 = .ok (.iconst 0, 1) := by decide +kernel
theorem dL_law_373 : decode cL_law 373 = .ok (.aload_n 3, 1) := by decide +kernel
theorem dL_law_374 : decode cL_law 374 = .ok (.invokestatic 98, 3) := by decide +kernel
theorem dL_law_377 : decode cL_law 377 = .ok (.istore 5, 2) := by decide +kernel
theorem dL_law_379 : decode cL_law 379 = .ok (.aload_n 2, 1) := by decide +kernel
theorem dL_law_380 : decode cL_law 380 = .ok (.aload_n 0, 1) := by decide +kernel
theorem dL_law_381 : decode cL_law 381 = .ok (.iload 4, 2) := by decide +kernel
theorem dL_law_383 : decode cL_law 383 = .ok (.iconst 1, 1) := by decide +kernel
theorem dL_law_384 : decode cL_law 384 = .ok (.iadd, 1) := by decide +kernel
theorem dL_law_385 : decode cL_law 385 = .ok (.iaload, 1) := by decide +kernel
theorem dL_law_386 : decode cL_law 386 = .ok (.aload_n 0, 1) := by decide +kernel
theorem dL_law_387 : decode cL_law 387 = .ok (.iload 4, 2) := by decide +kernel
theorem dL_law_389 : decode cL_law 389 = .ok (.iconst 2, 1) := by decide +kernel
theorem dL_law_390 : decode cL_law 390 = .ok (.iadd, 1) := by decide +kernel
theorem dL_law_391 : decode cL_law 391 = .ok (.iaload, 1) := by decide +kernel
theorem dL_law_392 : decode cL_law 392 = .ok (.ifCond .eq 7, 3) := by decide +kernel
theorem dL_law_395 : decode cL_law 395 = .ok (.iconst 1, 1) := by decide +kernel
theorem dL_law_396 : decode cL_law 396 = .ok (.goto 4, 3) := by decide +kernel
theorem dL_law_399 : decode cL_law 399 = .ok (.iconst 0, 1) := by decide +kernel
theorem dL_law_400 : decode cL_law 400 = .ok (.invokevirtual 101, 3) := by decide +kernel
theorem dL_law_403 : decode cL_law 403 = .ok (.istore 6, 2) := by decide +kernel
theorem dL_law_405 : decode cL_law 405 = .ok (.aload_n 2, 1) := by decide +kernel
theorem dL_law_406 : decode cL_law 406 = .ok (.invokevirtual 87, 3) := by decide +kernel
theorem dL_law_409 : decode cL_law 409 = .ok (.iload 5, 2) := by decide +kernel
theorem dL_law_411 : decode cL_law 411 = .ok (.if_icmp .eq 5, 3) := by decide +kernel
theorem dL_law_414 : decode cL_law 414 = .ok (.iconst 0, 1) := by decide +kernel
theorem dL_law_415 : decode cL_law 415 = .ok (.ireturn, 1) := by decide +kernel
theorem dL_law_416 : decode cL_law 416 = .ok (.iload 5, 2) := by decide +kernel
theorem dL_law_418 : decode cL_law 418 = .ok (.ifCond .ne 15, 3) := by decide +kernel
theorem dL_law_421 : decode cL_law 421 = .ok (.aload_n 3, 1) := by decide +kernel
theorem dL_law_422 : decode cL_law 422 = .ok (.iconst 0, 1) := by decide +kernel
theorem dL_law_423 : decode cL_law 423 = .ok (.laload, 1) := by decide +kernel
theorem dL_law_424 : decode cL_law 424 = .ok (.iload 6, 2) := by decide +kernel
theorem dL_law_426 : decode cL_law 426 = .ok (.i2l, 1) := by decide +kernel
theorem dL_law_427 : decode cL_law 427 = .ok (.lcmp, 1) := by decide +kernel
theorem dL_law_428 : decode cL_law 428 = .ok (.ifCond .eq 5, 3) := by decide +kernel
theorem dL_law_431 : decode cL_law 431 = .ok (.iconst 0, 1) := by decide +kernel
theorem dL_law_432 : decode cL_law 432 = .ok (.ireturn, 1) := by decide +kernel
theorem dL_law_433 : decode cL_law 433 = .ok (.goto 1110, 3) := by decide +kernel
theorem dL_law_436 : decode cL_law 436 = .ok (.aload_n 1, 1) := by decide +kernel
theorem dL_law_437 : decode cL_law 437 = .ok (.aload_n 0, 1) := by decide +kernel
theorem dL_law_438 : decode cL_law 438 = .ok (.iload 4, 2) := by decide +kernel
theorem dL_law_440 : decode cL_law 440 = .ok (.iconst 1, 1) := by decide +kernel
theorem dL_law_441 : decode cL_law 441 = .ok (.iadd, 1) := by decide +kernel
theorem dL_law_442 : decode cL_law 442 = .ok (.iaload, 1) := by decide +kernel
theorem dL_law_443 : decode cL_law 443 = .ok (.aload_n 3, 1) := by decide +kernel
theorem dL_law_444 : decode cL_law 444 = .ok (.invokestatic 102, 3) := by decide +kernel
theorem dL_law_447 : decode cL_law 447 = .ok (.istore 5, 2) := by decide +kernel
theorem dL_law_449 : decode cL_law 449 = .ok (.aload_n 2, 1) := by decide +kernel
theorem dL_law_450 : decode cL_law 450 = .ok (.aload_n 0, 1) := by decide +kernel
theorem dL_law_451 : decode cL_law 451 = .ok (.iload 4, 2) := by decide +kernel
theorem dL_law_453 : decode cL_law 453 = .ok (.iconst 1, 1) := by decide +kernel
theorem dL_law_454 : decode cL_law 454 = .ok (.iadd, 1) := by decide +kernel
theorem dL_law_455 : decode cL_law 455 = .ok (.iaload, 1) := by decide +kernel
theorem dL_law_456 : decode cL_law 456 = .ok (.invokevirtual 104, 3) := by decide +kernel
theorem dL_law_459 : decode cL_law 459 = .ok (.istore 6, 2) := by decide +kernel
theorem dL_law_461 : decode cL_law 461 = .ok (.aload_n 2, 1) := by decide +kernel
theorem dL_law_462 : decode cL_law 462 = .ok (.invokevirtual 87, 3) := by decide +kernel
theorem dL_law_465 : decode cL_law 465 = .ok (.iload 5, 2) := by decide +kernel
theorem dL_law_467 : decode cL_law 467 = .ok (.if_icmp .eq 5, 3) := by decide +kernel
theorem dL_law_470 : decode cL_law 470 = .ok (.iconst 0, 1) := by decide +kernel
theorem dL_law_471 : decode cL_law 471 = .ok (.ireturn, 1) := by decide +kernel
theorem dL_law_472 : decode cL_law 472 = .ok (.iload 5, 2) := by decide +kernel
theorem dL_law_474 : decode cL_law 474 = .ok (.ifCond .ne 15, 3) := by decide +kernel
theorem dL_law_477 : decode cL_law 477 = .ok (.aload_n 3, 1) := by decide +kernel
theorem dL_law_478 : decode cL_law 478 = .ok (.iconst 0, 1) := by decide +kernel
theorem dL_law_479 : decode cL_law 479 = .ok (.laload, 1) := by decide +kernel
theorem dL_law_480 : decode cL_law 480 = .ok (.iload 6, 2) := by decide +kernel
theorem dL_law_482 : decode cL_law 482 = .ok (.i2l, 1) := by decide +kernel
theorem dL_law_483 : decode cL_law 483 = .ok (.lcmp, 1) := by decide +kernel
theorem dL_law_484 : decode cL_law 484 = .ok (.ifCond .eq 5, 3) := by decide +kernel
theorem dL_law_487 : decode cL_law 487 = .ok (.iconst 0, 1) := by decide +kernel
theorem dL_law_488 : decode cL_law 488 = .ok (.ireturn, 1) := by decide +kernel
theorem dL_law_489 : decode cL_law 489 = .ok (.goto 1054, 3) := by decide +kernel
theorem dL_law_492 : decode cL_law 492 = .ok (.aload_n 1, 1) := by decide +kernel
theorem dL_law_493 : decode cL_law 493 = .ok (.invokevirtual 105, 3) := by decide +kernel
theorem dL_law_496 : decode cL_law 496 = .ok (.aload_n 2, 1) := by decide +kernel
theorem dL_law_497 : decode cL_law 497 = .ok (.invokevirtual 108, 3) := by decide +kernel
theorem dL_law_500 : decode cL_law 500 = .ok (.if_icmp .eq 1043, 3) := by decide +kernel
theorem dL_law_503 : decode cL_law 503 = .ok (.iconst 0, 1) := by decide +kernel
theorem dL_law_504 : decode cL_law 504 = .ok (.ireturn, 1) := by decide +kernel
theorem dL_law_505 : decode cL_law 505 = .ok (.aload_n 1, 1) := by decide +kernel
theorem dL_law_506 : decode cL_law 506 = .ok (.aload_n 0, 1) := by decide +kernel
theorem dL_law_507 : decode cL_law 507 = .ok (.iload 4, 2) := by decide +kernel
theorem dL_law_509 : decode cL_law 509 = .ok (.iconst 1, 1) := by decide +kernel
theorem dL_law_510 : decode cL_law 510 = .ok (.iadd, 1) := by decide +kernel
theorem dL_law_511 : decode cL_law 511 = .ok (.iaload, 1) := by decide +kernel
theorem dL_law_512 : decode cL_law 512 = .ok (.aload_n 3, 1) := by decide +kernel
theorem dL_law_513 : decode cL_law 513 = .ok (.invokestatic 109, 3) := by decide +kernel
theorem dL_law_516 : decode cL_law 516 = .ok (.istore 5, 2) := by decide +kernel
theorem dL_law_518 : decode cL_law 518 = .ok (.aload_n 2, 1) := by decide +kernel
theorem dL_law_519 : decode cL_law 519 = .ok (.aload_n 0, 1) := by decide +kernel
theorem dL_law_520 : decode cL_law 520 = .ok (.iload 4, 2) := by decide +kernel
theorem dL_law_522 : decode cL_law 522 = .ok (.iconst 1, 1) := by decide +kernel
theorem dL_law_523 : decode cL_law 523 = .ok (.iadd, 1) := by decide +kernel
theorem dL_law_524 : decode cL_law 524 = .ok (.iaload, 1) := by decide +kernel
theorem dL_law_525 : decode cL_law 525 = .ok (.invokevirtual 111, 3) := by decide +kernel
theorem dL_law_528 : decode cL_law 528 = .ok (.istore 6, 2) := by decide +kernel
theorem dL_law_530 : decode cL_law 530 = .ok (.aload_n 2, 1) := by decide +kernel
theorem dL_law_531 : decode cL_law 531 = .ok (.invokevirtual 87, 3) := by decide +kernel
theorem dL_law_534 : decode cL_law 534 = .ok (.iload 5, 2) := by decide +kernel
theorem dL_law_536 : decode cL_law 536 = .ok (.if_icmp .eq 5, 3) := by decide +kernel
theorem dL_law_539 : decode cL_law 539 = .ok (.iconst 0, 1) := by decide +kernel
theorem dL_law_540 : decode cL_law 540 = .ok (.ireturn, 1) := by decide +kernel
theorem dL_law_541 : decode cL_law 541 = .ok (.iload 5, 2) := by decide +kernel
theorem dL_law_543 : decode cL_law 543 = .ok (.ifCond .ne 15, 3) := by decide +kernel
theorem dL_law_546 : decode cL_law 546 = .ok (.aload_n 3, 1) := by decide +kernel
theorem dL_law_547 : decode cL_law 547 = .ok (.iconst 0, 1) := by decide +kernel
theorem dL_law_548 : decode cL_law 548 = .ok (.laload, 1) := by decide +kernel
theorem dL_law_549 : decode cL_law 549 = .ok (.iload 6, 2) := by decide +kernel
theorem dL_law_551 : decode cL_law 551 = .ok (.i2l, 1) := by decide +kernel
theorem dL_law_552 : decode cL_law 552 = .ok (.lcmp, 1) := by decide +kernel
theorem dL_law_553 : decode cL_law 553 = .ok (.ifCond .eq 5, 3) := by decide +kernel
theorem dL_law_556 : decode cL_law 556 = .ok (.iconst 0, 1) := by decide +kernel
theorem dL_law_557 : decode cL_law 557 = .ok (.ireturn, 1) := by decide +kernel
theorem dL_law_558 : decode cL_law 558 = .ok (.goto 985, 3) := by decide +kernel
theorem dL_law_561 : decode cL_law 561 = .ok (.aload_n 1, 1) := by decide +kernel
theorem dL_law_562 : decode cL_law 562 = .ok (.aload_n 0, 1) := by decide +kernel
theorem dL_law_563 : decode cL_law 563 = .ok (.iload 4, 2) := by decide +kernel
theorem dL_law_565 : decode cL_law 565 = .ok (.iconst 1, 1) := by decide +kernel
theorem dL_law_566 : decode cL_law 566 = .ok (.iadd, 1) := by decide +kernel
theorem dL_law_567 : decode cL_law 567 = .ok (.iaload, 1) := by decide +kernel
theorem dL_law_568 : decode cL_law 568 = .ok (.aload_n 3, 1) := by decide +kernel
theorem dL_law_569 : decode cL_law 569 = .ok (.invokestatic 112, 3) := by decide +kernel
theorem dL_law_572 : decode cL_law 572 = .ok (.istore 5, 2) := by decide +kernel
theorem dL_law_574 : decode cL_law 574 = .ok (.aload_n 2, 1) := by decide +kernel
theorem dL_law_575 : decode cL_law 575 = .ok (.aload_n 0, 1) := by decide +kernel
theorem dL_law_576 : decode cL_law 576 = .ok (.iload 4, 2) := by decide +kernel
theorem dL_law_578 : decode cL_law 578 = .ok (.iconst 1, 1) := by decide +kernel
theorem dL_law_579 : decode cL_law 579 = .ok (.iadd, 1) := by decide +kernel
theorem dL_law_580 : decode cL_law 580 = .ok (.iaload, 1) := by decide +kernel
theorem dL_law_581 : decode cL_law 581 = .ok (.invokevirtual 114, 3) := by decide +kernel
theorem dL_law_584 : decode cL_law 584 = .ok (.istore 6, 2) := by decide +kernel
theorem dL_law_586 : decode cL_law 586 = .ok (.aload_n 2, 1) := by decide +kernel
theorem dL_law_587 : decode cL_law 587 = .ok (.invokevirtual 87, 3) := by decide +kernel
theorem dL_law_590 : decode cL_law 590 = .ok (.iload 5, 2) := by decide +kernel
theorem dL_law_592 : decode cL_law 592 = .ok (.if_icmp .eq 5, 3) := by decide +kernel
theorem dL_law_595 : decode cL_law 595 = .ok (.iconst 0, 1) := by decide +kernel
theorem dL_law_596 : decode cL_law 596 = .ok (.ireturn, 1) := by decide +kernel
theorem dL_law_597 : decode cL_law 597 = .ok (.iload 5, 2) := by decide +kernel
theorem dL_law_599 : decode cL_law 599 = .ok (.ifCond .ne 15, 3) := by decide +kernel
theorem dL_law_602 : decode cL_law 602 = .ok (.aload_n 3, 1) := by decide +kernel
theorem dL_law_603 : decode cL_law 603 = .ok (.iconst 0, 1) := by decide +kernel
theorem dL_law_604 : decode cL_law 604 = .ok (.laload, 1) := by decide +kernel
theorem dL_law_605 : decode cL_law 605 = .ok (.iload 6, 2) := by decide +kernel
theorem dL_law_607 : decode cL_law 607 = .ok (.i2l, 1) := by decide +kernel
theorem dL_law_608 : decode cL_law 608 = .ok (.lcmp, 1) := by decide +kernel
theorem dL_law_609 : decode cL_law 609 = .ok (.ifCond .eq 5, 3) := by decide +kernel
theorem dL_law_612 : decode cL_law 612 = .ok (.iconst 0, 1) := by decide +kernel
theorem dL_law_613 : decode cL_law 613 = .ok (.ireturn, 1) := by decide +kernel
theorem dL_law_614 : decode cL_law 614 = .ok (.goto 929, 3) := by decide +kernel
theorem dL_law_617 : decode cL_law 617 = .ok (.aload_n 1, 1) := by decide +kernel
theorem dL_law_618 : decode cL_law 618 = .ok (.aload_n 0, 1) := by decide +kernel
theorem dL_law_619 : decode cL_law 619 = .ok (.iload 4, 2) := by decide +kernel
theorem dL_law_621 : decode cL_law 621 = .ok (.iconst 1, 1) := by decide +kernel
theorem dL_law_622 : decode cL_law 622 = .ok (.iadd, 1) := by decide +kernel
theorem dL_law_623 : decode cL_law 623 = .ok (.iaload, 1) := by decide +kernel
theorem dL_law_624 : decode cL_law 624 = .ok (.aload_n 3, 1) := by decide +kernel
theorem dL_law_625 : decode cL_law 625 = .ok (.invokestatic 115, 3) := by decide +kernel
theorem dL_law_628 : decode cL_law 628 = .ok (.istore 5, 2) := by decide +kernel
theorem dL_law_630 : decode cL_law 630 = .ok (.aload_n 2, 1) := by decide +kernel
theorem dL_law_631 : decode cL_law 631 = .ok (.aload_n 0, 1) := by decide +kernel
theorem dL_law_632 : decode cL_law 632 = .ok (.iload 4, 2) := by decide +kernel
theorem dL_law_634 : decode cL_law 634 = .ok (.iconst 1, 1) := by decide +kernel
theorem dL_law_635 : decode cL_law 635 = .ok (.iadd, 1) := by decide +kernel
theorem dL_law_636 : decode cL_law 636 = .ok (.iaload, 1) := by decide +kernel
theorem dL_law_637 : decode cL_law 637 = .ok (.invokevirtual 117, 3) := by decide +kernel
theorem dL_law_640 : decode cL_law 640 = .ok (.istore 6, 2) := by decide +kernel
theorem dL_law_642 : decode cL_law 642 = .ok (.aload_n 2, 1) := by decide +kernel
theorem dL_law_643 : decode cL_law 643 = .ok (.invokevirtual 87, 3) := by decide +kernel
theorem dL_law_646 : decode cL_law 646 = .ok (.iload 5, 2) := by decide +kernel
theorem dL_law_648 : decode cL_law 648 = .ok (.if_icmp .eq 5, 3) := by decide +kernel
theorem dL_law_651 : decode cL_law 651 = .ok (.iconst 0, 1) := by decide +kernel
theorem dL_law_652 : decode cL_law 652 = .ok (.ireturn, 1) := by decide +kernel
theorem dL_law_653 : decode cL_law 653 = .ok (.iload 5, 2) := by decide +kernel
theorem dL_law_655 : decode cL_law 655 = .ok (.ifCond .ne 22, 3) := by decide +kernel
theorem dL_law_658 : decode cL_law 658 = .ok (.aload_n 3, 1) := by decide +kernel
theorem dL_law_659 : decode cL_law 659 = .ok (.iconst 0, 1) := by decide +kernel
theorem dL_law_660 : decode cL_law 660 = .ok (.laload, 1) := by decide +kernel
theorem dL_law_661 : decode cL_law 661 = .ok (.iload 6, 2) := by decide +kernel
theorem dL_law_663 : decode cL_law 663 = .ok (.ifCond .eq 7, 3) := by decide +kernel
theorem dL_law_666 : decode cL_law 666 = .ok (.lconst 1, 1) := by decide +kernel
theorem dL_law_667 : decode cL_law 667 = .ok (.goto 4, 3) := by decide +kernel
theorem dL_law_670 : decode cL_law 670 = .ok (.lconst 0, 1) := by decide +kernel
theorem dL_law_671 : decode cL_law 671 = .ok (.lcmp, 1) := by decide +kernel
theorem dL_law_672 : decode cL_law 672 = .ok (.ifCond .eq 5, 3) := by decide +kernel
theorem dL_law_675 : decode cL_law 675 = .ok (.iconst 0, 1) := by decide +kernel
theorem dL_law_676 : decode cL_law 676 = .ok (.ireturn, 1) := by decide +kernel
theorem dL_law_677 : decode cL_law 677 = .ok (.goto 866, 3) := by decide +kernel
theorem dL_law_680 : decode cL_law 680 = .ok (.aload_n 1, 1) := by decide +kernel
theorem dL_law_681 : decode cL_law 681 = .ok (.aload_n 0, 1) := by decide +kernel
theorem dL_law_682 : decode cL_law 682 = .ok (.iload 4, 2) := by decide +kernel
theorem dL_law_684 : decode cL_law 684 = .ok (.iconst 1, 1) := by decide +kernel
theorem dL_law_685 : decode cL_law 685 = .ok (.iadd, 1) := by decide +kernel
theorem dL_law_686 : decode cL_law 686 = .ok (.iaload, 1) := by decide +kernel
theorem dL_law_687 : decode cL_law 687 = .ok (.aload_n 3, 1) := by decide +kernel
theorem dL_law_688 : decode cL_law 688 = .ok (.invokestatic 118, 3) := by decide +kernel
theorem dL_law_691 : decode cL_law 691 = .ok (.istore 5, 2) := by decide +kernel
theorem dL_law_693 : decode cL_law 693 = .ok (.aload_n 2, 1) := by decide +kernel
theorem dL_law_694 : decode cL_law 694 = .ok (.aload_n 0, 1) := by decide +kernel
theorem dL_law_695 : decode cL_law 695 = .ok (.iload 4, 2) := by decide +kernel
theorem dL_law_697 : decode cL_law 697 = .ok (.iconst 1, 1) := by decide +kernel
theorem dL_law_698 : decode cL_law 698 = .ok (.iadd, 1) := by decide +kernel
theorem dL_law_699 : decode cL_law 699 = .ok (.iaload, 1) := by decide +kernel
theorem dL_law_700 : decode cL_law 700 = .ok (.invokevirtual 120, 3) := by decide +kernel
theorem dL_law_703 : decode cL_law 703 = .ok (.istore 6, 2) := by decide +kernel
theorem dL_law_705 : decode cL_law 705 = .ok (.aload_n 2, 1) := by decide +kernel
theorem dL_law_706 : decode cL_law 706 = .ok (.invokevirtual 87, 3) := by decide +kernel
theorem dL_law_709 : decode cL_law 709 = .ok (.iload 5, 2) := by decide +kernel
theorem dL_law_711 : decode cL_law 711 = .ok (.if_icmp .eq 5, 3) := by decide +kernel
theorem dL_law_714 : decode cL_law 714 = .ok (.iconst 0, 1) := by decide +kernel
theorem dL_law_715 : decode cL_law 715 = .ok (.ireturn, 1) := by decide +kernel
theorem dL_law_716 : decode cL_law 716 = .ok (.iload 5, 2) := by decide +kernel
theorem dL_law_718 : decode cL_law 718 = .ok (.ifCond .ne 22, 3) := by decide +kernel
theorem dL_law_721 : decode cL_law 721 = .ok (.aload_n 3, 1) := by decide +kernel
theorem dL_law_722 : decode cL_law 722 = .ok (.iconst 0, 1) := by decide +kernel
theorem dL_law_723 : decode cL_law 723 = .ok (.laload, 1) := by decide +kernel
theorem dL_law_724 : decode cL_law 724 = .ok (.iload 6, 2) := by decide +kernel
theorem dL_law_726 : decode cL_law 726 = .ok (.ifCond .eq 7, 3) := by decide +kernel
theorem dL_law_729 : decode cL_law 729 = .ok (.lconst 1, 1) := by decide +kernel
theorem dL_law_730 : decode cL_law 730 = .ok (.goto 4, 3) := by decide +kernel
theorem dL_law_733 : decode cL_law 733 = .ok (.lconst 0, 1) := by decide +kernel
theorem dL_law_734 : decode cL_law 734 = .ok (.lcmp, 1) := by decide +kernel
theorem dL_law_735 : decode cL_law 735 = .ok (.ifCond .eq 5, 3) := by decide +kernel
theorem dL_law_738 : decode cL_law 738 = .ok (.iconst 0, 1) := by decide +kernel
theorem dL_law_739 : decode cL_law 739 = .ok (.ireturn, 1) := by decide +kernel
theorem dL_law_740 : decode cL_law 740 = .ok (.goto 803, 3) := by decide +kernel
theorem dL_law_743 : decode cL_law 743 = .ok (.aload_n 1, 1) := by decide +kernel
theorem dL_law_744 : decode cL_law 744 = .ok (.aload_n 0, 1) := by decide +kernel
theorem dL_law_745 : decode cL_law 745 = .ok (.iload 4, 2) := by decide +kernel
theorem dL_law_747 : decode cL_law 747 = .ok (.iconst 1, 1) := by decide +kernel
theorem dL_law_748 : decode cL_law 748 = .ok (.iadd, 1) := by decide +kernel
theorem dL_law_749 : decode cL_law 749 = .ok (.iaload, 1) := by decide +kernel
theorem dL_law_750 : decode cL_law 750 = .ok (.aload_n 3, 1) := by decide +kernel
theorem dL_law_751 : decode cL_law 751 = .ok (.invokestatic 121, 3) := by decide +kernel
theorem dL_law_754 : decode cL_law 754 = .ok (.istore 5, 2) := by decide +kernel
theorem dL_law_756 : decode cL_law 756 = .ok (.aload_n 2, 1) := by decide +kernel
theorem dL_law_757 : decode cL_law 757 = .ok (.aload_n 0, 1) := by decide +kernel
theorem dL_law_758 : decode cL_law 758 = .ok (.iload 4, 2) := by decide +kernel
theorem dL_law_760 : decode cL_law 760 = .ok (.iconst 1, 1) := by decide +kernel
theorem dL_law_761 : decode cL_law 761 = .ok (.iadd, 1) := by decide +kernel
theorem dL_law_762 : decode cL_law 762 = .ok (.iaload, 1) := by decide +kernel
theorem dL_law_763 : decode cL_law 763 = .ok (.invokevirtual 123, 3) := by decide +kernel
theorem dL_law_766 : decode cL_law 766 = .ok (.istore 6, 2) := by decide +kernel
theorem dL_law_768 : decode cL_law 768 = .ok (.aload_n 2, 1) := by decide +kernel
theorem dL_law_769 : decode cL_law 769 = .ok (.invokevirtual 87, 3) := by decide +kernel
theorem dL_law_772 : decode cL_law 772 = .ok (.iload 5, 2) := by decide +kernel
theorem dL_law_774 : decode cL_law 774 = .ok (.if_icmp .eq 5, 3) := by decide +kernel
theorem dL_law_777 : decode cL_law 777 = .ok (.iconst 0, 1) := by decide +kernel
theorem dL_law_778 : decode cL_law 778 = .ok (.ireturn, 1) := by decide +kernel
theorem dL_law_779 : decode cL_law 779 = .ok (.iload 5, 2) := by decide +kernel
theorem dL_law_781 : decode cL_law 781 = .ok (.ifCond .ne 15, 3) := by decide +kernel
theorem dL_law_784 : decode cL_law 784 = .ok (.aload_n 3, 1) := by decide +kernel
theorem dL_law_785 : decode cL_law 785 = .ok (.iconst 0, 1) := by decide +kernel
theorem dL_law_786 : decode cL_law 786 = .ok (.laload, 1) := by decide +kernel
theorem dL_law_787 : decode cL_law 787 = .ok (.iload 6, 2) := by decide +kernel
theorem dL_law_789 : decode cL_law 789 = .ok (.i2l, 1) := by decide +kernel
theorem dL_law_790 : decode cL_law 790 = .ok (.lcmp, 1) := by decide +kernel
theorem dL_law_791 : decode cL_law 791 = .ok (.ifCond .eq 5, 3) := by decide +kernel
theorem dL_law_794 : decode cL_law 794 = .ok (.iconst 0, 1) := by decide +kernel
theorem dL_law_795 : decode cL_law 795 = .ok (.ireturn, 1) := by decide +kernel
theorem dL_law_796 : decode cL_law 796 = .ok (.goto 747, 3) := by decide +kernel
theorem dL_law_799 : decode cL_law 799 = .ok (.aload_n 1, 1) := by decide +kernel
theorem dL_law_800 : decode cL_law 800 = .ok (.invokevirtual 124, 3) := by decide +kernel
theorem dL_law_803 : decode cL_law 803 = .ok (.aload_n 2, 1) := by decide +kernel
theorem dL_law_804 : decode cL_law 804 = .ok (.invokevirtual 127, 3) := by decide +kernel
theorem dL_law_807 : decode cL_law 807 = .ok (.if_icmp .eq 736, 3) := by decide +kernel
theorem dL_law_810 : decode cL_law 810 = .ok (.iconst 0, 1) := by decide +kernel
theorem dL_law_811 : decode cL_law 811 = .ok (.ireturn, 1) := by decide +kernel
theorem dL_law_812 : decode cL_law 812 = .ok (.aload_n 1, 1) := by decide +kernel
theorem dL_law_813 : decode cL_law 813 = .ok (.invokevirtual 128, 3) := by decide +kernel
theorem dL_law_816 : decode cL_law 816 = .ok (.aload_n 2, 1) := by decide +kernel
theorem dL_law_817 : decode cL_law 817 = .ok (.invokevirtual 131, 3) := by decide +kernel
theorem dL_law_820 : decode cL_law 820 = .ok (.if_icmp .eq 723, 3) := by decide +kernel
theorem dL_law_823 : decode cL_law 823 = .ok (.iconst 0, 1) := by decide +kernel
theorem dL_law_824 : decode cL_law 824 = .ok (.ireturn, 1) := by decide +kernel
theorem dL_law_825 : decode cL_law 825 = .ok (.aload_n 1, 1) := by decide +kernel
theorem dL_law_826 : decode cL_law 826 = .ok (.aload_n 0, 1) := by decide +kernel
theorem dL_law_827 : decode cL_law 827 = .ok (.iload 4, 2) := by decide +kernel
theorem dL_law_829 : decode cL_law 829 = .ok (.iconst 1, 1) := by decide +kernel
theorem dL_law_830 : decode cL_law 830 = .ok (.iadd, 1) := by decide +kernel
theorem dL_law_831 : decode cL_law 831 = .ok (.iaload, 1) := by decide +kernel
theorem dL_law_832 : decode cL_law 832 = .ok (.aload_n 3, 1) := by decide +kernel
theorem dL_law_833 : decode cL_law 833 = .ok (.invokestatic 132, 3) := by decide +kernel
theorem dL_law_836 : decode cL_law 836 = .ok (.istore 5, 2) := by decide +kernel
theorem dL_law_838 : decode cL_law 838 = .ok (.aload_n 2, 1) := by decide +kernel
theorem dL_law_839 : decode cL_law 839 = .ok (.aload_n 0, 1) := by decide +kernel
theorem dL_law_840 : decode cL_law 840 = .ok (.iload 4, 2) := by decide +kernel
theorem dL_law_842 : decode cL_law 842 = .ok (.iconst 1, 1) := by decide +kernel
theorem dL_law_843 : decode cL_law 843 = .ok (.iadd, 1) := by decide +kernel
theorem dL_law_844 : decode cL_law 844 = .ok (.iaload, 1) := by decide +kernel
theorem dL_law_845 : decode cL_law 845 = .ok (.invokevirtual 134, 3) := by decide +kernel
theorem dL_law_848 : decode cL_law 848 = .ok (.istore 6, 2) := by decide +kernel
theorem dL_law_850 : decode cL_law 850 = .ok (.aload_n 2, 1) := by decide +kernel
theorem dL_law_851 : decode cL_law 851 = .ok (.invokevirtual 87, 3) := by decide +kernel
theorem dL_law_854 : decode cL_law 854 = .ok (.iload 5, 2) := by decide +kernel
theorem dL_law_856 : decode cL_law 856 = .ok (.if_icmp .eq 5, 3) := by decide +kernel
theorem dL_law_859 : decode cL_law 859 = .ok (.iconst 0, 1) := by decide +kernel
theorem dL_law_860 : decode cL_law 860 = .ok (.ireturn, 1) := by decide +kernel
theorem dL_law_861 : decode cL_law 861 = .ok (.iload 5, 2) := by decide +kernel
theorem dL_law_863 : decode cL_law 863 = .ok (.ifCond .ne 15, 3) := by decide +kernel
theorem dL_law_866 : decode cL_law 866 = .ok (.aload_n 3, 1) := by decide +kernel
theorem dL_law_867 : decode cL_law 867 = .ok (.iconst 0, 1) := by decide +kernel
theorem dL_law_868 : decode cL_law 868 = .ok (.laload, 1) := by decide +kernel
theorem dL_law_869 : decode cL_law 869 = .ok (.iload 6, 2) := by decide +kernel
theorem dL_law_871 : decode cL_law 871 = .ok (.i2l, 1) := by decide +kernel
theorem dL_law_872 : decode cL_law 872 = .ok (.lcmp, 1) := by decide +kernel
theorem dL_law_873 : decode cL_law 873 = .ok (.ifCond .eq 5, 3) := by decide +kernel
theorem dL_law_876 : decode cL_law 876 = .ok (.iconst 0, 1) := by decide +kernel
theorem dL_law_877 : decode cL_law 877 = .ok (.ireturn, 1) := by decide +kernel
theorem dL_law_878 : decode cL_law 878 = .ok (.goto 665, 3) := by decide +kernel
theorem dL_law_881 : decode cL_law 881 = .ok (.aload_n 1, 1) := by decide +kernel
theorem dL_law_882 : decode cL_law 882 = .ok (.aload_n 0, 1) := by decide +kernel
theorem dL_law_883 : decode cL_law 883 = .ok (.iload 4, 2) := by decide +kernel
theorem dL_law_885 : decode cL_law 885 = .ok (.iconst 1, 1) := by decide +kernel
theorem dL_law_886 : decode cL_law 886 = .ok (.iadd, 1) := by decide +kernel
theorem dL_law_887 : decode cL_law 887 = .ok (.iaload, 1) := by decide +kernel
theorem dL_law_888 : decode cL_law 888 = .ok (.aload_n 3, 1) := by decide +kernel
theorem dL_law_889 : decode cL_law 889 = .ok (.invokestatic 135, 3) := by decide +kernel
theorem dL_law_892 : decode cL_law 892 = .ok (.istore 5, 2) := by decide +kernel
theorem dL_law_894 : decode cL_law 894 = .ok (.aload_n 2, 1) := by decide +kernel
theorem dL_law_895 : decode cL_law 895 = .ok (.aload_n 0, 1) := by decide +kernel
theorem dL_law_896 : decode cL_law 896 = .ok (.iload 4, 2) := by decide +kernel
theorem dL_law_898 : decode cL_law 898 = .ok (.iconst 1, 1) := by decide +kernel
theorem dL_law_899 : decode cL_law 899 = .ok (.iadd, 1) := by decide +kernel
theorem dL_law_900 : decode cL_law 900 = .ok (.iaload, 1) := by decide +kernel
theorem dL_law_901 : decode cL_law 901 = .ok (.invokevirtual 137, 3) := by decide +kernel
theorem dL_law_904 : decode cL_law 904 = .ok (.istore 6, 2) := by decide +kernel
theorem dL_law_906 : decode cL_law 906 = .ok (.aload_n 2, 1) := by decide +kernel
theorem dL_law_907 : decode cL_law 907 = .ok (.invokevirtual 87, 3) := by decide +kernel
theorem dL_law_910 : decode cL_law 910 = .ok (.iload 5, 2) := by decide +kernel
theorem dL_law_912 : decode cL_law 912 = .ok (.if_icmp .eq 5, 3) := by decide +kernel
theorem dL_law_915 : decode cL_law 915 = .ok (.iconst 0, 1) := by decide +kernel
theorem dL_law_916 : decode cL_law 916 = .ok (.ireturn, 1) := by decide +kernel
theorem dL_law_917 : decode cL_law 917 = .ok (.iload 5, 2) := by decide +kernel
theorem dL_law_919 : decode cL_law 919 = .ok (.ifCond .ne 22, 3) := by decide +kernel
theorem dL_law_922 : decode cL_law 922 = .ok (.aload_n 3, 1) := by decide +kernel
theorem dL_law_923 : decode cL_law 923 = .ok (.iconst 0, 1) := by decide +kernel
theorem dL_law_924 : decode cL_law 924 = .ok (.laload, 1) := by decide +kernel
theorem dL_law_925 : decode cL_law 925 = .ok (.iload 6, 2) := by decide +kernel
theorem dL_law_927 : decode cL_law 927 = .ok (.ifCond .eq 7, 3) := by decide +kernel
theorem dL_law_930 : decode cL_law 930 = .ok (.lconst 1, 1) := by decide +kernel
theorem dL_law_931 : decode cL_law 931 = .ok (.goto 4, 3) := by decide +kernel
theorem dL_law_934 : decode cL_law 934 = .ok (.lconst 0, 1) := by decide +kernel
theorem dL_law_935 : decode cL_law 935 = .ok (.lcmp, 1) := by decide +kernel
theorem dL_law_936 : decode cL_law 936 = .ok (.ifCond .eq 5, 3) := by decide +kernel
theorem dL_law_939 : decode cL_law 939 = .ok (.iconst 0, 1) := by decide +kernel
theorem dL_law_940 : decode cL_law 940 = .ok (.ireturn, 1) := by decide +kernel
theorem dL_law_941 : decode cL_law 941 = .ok (.goto 602, 3) := by decide +kernel
theorem dL_law_944 : decode cL_law 944 = .ok (.aload_n 1, 1) := by decide +kernel
theorem dL_law_945 : decode cL_law 945 = .ok (.invokevirtual 138, 3) := by decide +kernel
theorem dL_law_948 : decode cL_law 948 = .ok (.aload_n 2, 1) := by decide +kernel
theorem dL_law_949 : decode cL_law 949 = .ok (.invokevirtual 142, 3) := by decide +kernel
theorem dL_law_952 : decode cL_law 952 = .ok (.if_icmp .eq 591, 3) := by decide +kernel
theorem dL_law_955 : decode cL_law 955 = .ok (.iconst 0, 1) := by decide +kernel
theorem dL_law_956 : decode cL_law 956 = .ok (.ireturn, 1) := by decide +kernel
theorem dL_law_957 : decode cL_law 957 = .ok (.aload_n 1, 1) := by decide +kernel
theorem dL_law_958 : decode cL_law 958 = .ok (.invokevirtual 143, 3) := by decide +kernel
theorem dL_law_961 : decode cL_law 961 = .ok (.aload_n 2, 1) := by decide +kernel
theorem dL_law_962 : decode cL_law 962 = .ok (.invokevirtual 146, 3) := by decide +kernel
theorem dL_law_965 : decode cL_law 965 = .ok (.if_icmp .eq 578, 3) := by decide +kernel
theorem dL_law_968 : decode cL_law 968 = .ok (.iconst 0, 1) := by decide +kernel
theorem dL_law_969 : decode cL_law 969 = .ok (.ireturn, 1) := by decide +kernel
theorem dL_law_970 : decode cL_law 970 = .ok (.aload_n 1, 1) := by decide +kernel
theorem dL_law_971 : decode cL_law 971 = .ok (.aload_n 0, 1) := by decide +kernel
theorem dL_law_972 : decode cL_law 972 = .ok (.iload 4, 2) := by decide +kernel
theorem dL_law_974 : decode cL_law 974 = .ok (.iconst 1, 1) := by decide +kernel
theorem dL_law_975 : decode cL_law 975 = .ok (.iadd, 1) := by decide +kernel
theorem dL_law_976 : decode cL_law 976 = .ok (.iaload, 1) := by decide +kernel
theorem dL_law_977 : decode cL_law 977 = .ok (.aload_n 3, 1) := by decide +kernel
theorem dL_law_978 : decode cL_law 978 = .ok (.invokestatic 147, 3) := by decide +kernel
theorem dL_law_981 : decode cL_law 981 = .ok (.istore 5, 2) := by decide +kernel
theorem dL_law_983 : decode cL_law 983 = .ok (.aload_n 2, 1) := by decide +kernel
theorem dL_law_984 : decode cL_law 984 = .ok (.aload_n 0, 1) := by decide +kernel
theorem dL_law_985 : decode cL_law 985 = .ok (.iload 4, 2) := by decide +kernel
theorem dL_law_987 : decode cL_law 987 = .ok (.iconst 1, 1) := by decide +kernel
theorem dL_law_988 : decode cL_law 988 = .ok (.iadd, 1) := by decide +kernel
theorem dL_law_989 : decode cL_law 989 = .ok (.iaload, 1) := by decide +kernel
theorem dL_law_990 : decode cL_law 990 = .ok (.invokevirtual 149, 3) := by decide +kernel
theorem dL_law_993 : decode cL_law 993 = .ok (.istore 6, 2) := by decide +kernel
theorem dL_law_995 : decode cL_law 995 = .ok (.aload_n 2, 1) := by decide +kernel
theorem dL_law_996 : decode cL_law 996 = .ok (.invokevirtual 87, 3) := by decide +kernel
theorem dL_law_999 : decode cL_law 999 = .ok (.iload 5, 2) := by decide +kernel
theorem dL_law_1001 : decode cL_law 1001 = .ok (.if_icmp .eq 5, 3) := by decide +kernel
theorem dL_law_1004 : decode cL_law 1004 = .ok (.iconst 0, 1) := by decide +kernel
theorem dL_law_1005 : decode cL_law 1005 = .ok (.ireturn, 1) := by decide +kernel
theorem dL_law_1006 : decode cL_law 1006 = .ok (.iload 5, 2) := by decide +kernel
theorem dL_law_1008 : decode cL_law 1008 = .ok (.ifCond .ne 15, 3) := by decide +kernel
theorem dL_law_1011 : decode cL_law 1011 = .ok (.aload_n 3, 1) := by decide +kernel
theorem dL_law_1012 : decode cL_law 1012 = .ok (.iconst 0, 1) := by decide +kernel
theorem dL_law_1013 : decode cL_law 1013 = .ok (.laload, 1) := by decide +kernel
theorem dL_law_1014 : decode cL_law 1014 = .ok (.iload 6, 2) := by decide +kernel
theorem dL_law_1016 : decode cL_law 1016 = .ok (.i2l, 1) := by decide +kernel
theorem dL_law_1017 : decode cL_law 1017 = .ok (.lcmp, 1) := by decide +kernel
theorem dL_law_1018 : decode cL_law 1018 = .ok (.ifCond .eq 5, 3) := by decide +kernel
theorem dL_law_1021 : decode cL_law 1021 = .ok (.iconst 0, 1) := by decide +kernel
theorem dL_law_1022 : decode cL_law 1022 = .ok (.ireturn, 1) := by decide +kernel
theorem dL_law_1023 : decode cL_law 1023 = .ok (.goto 520, 3) := by decide +kernel
theorem dL_law_1026 : decode cL_law 1026 = .ok (.aload_n 1, 1) := by decide +kernel
theorem dL_law_1027 : decode cL_law 1027 = .ok (.aload_n 0, 1) := by decide +kernel
theorem dL_law_1028 : decode cL_law 1028 = .ok (.iload 4, 2) := by decide +kernel
theorem dL_law_1030 : decode cL_law 1030 = .ok (.iconst 1, 1) := by decide +kernel
theorem dL_law_1031 : decode cL_law 1031 = .ok (.iadd, 1) := by decide +kernel
theorem dL_law_1032 : decode cL_law 1032 = .ok (.iaload, 1) := by decide +kernel
theorem dL_law_1033 : decode cL_law 1033 = .ok (.aload_n 3, 1) := by decide +kernel
theorem dL_law_1034 : decode cL_law 1034 = .ok (.invokestatic 150, 3) := by decide +kernel
theorem dL_law_1037 : decode cL_law 1037 = .ok (.istore 5, 2) := by decide +kernel
theorem dL_law_1039 : decode cL_law 1039 = .ok (.aload_n 2, 1) := by decide +kernel
theorem dL_law_1040 : decode cL_law 1040 = .ok (.aload_n 0, 1) := by decide +kernel
theorem dL_law_1041 : decode cL_law 1041 = .ok (.iload 4, 2) := by decide +kernel
theorem dL_law_1043 : decode cL_law 1043 = .ok (.iconst 1, 1) := by decide +kernel
theorem dL_law_1044 : decode cL_law 1044 = .ok (.iadd, 1) := by decide +kernel
theorem dL_law_1045 : decode cL_law 1045 = .ok (.iaload, 1) := by decide +kernel
theorem dL_law_1046 : decode cL_law 1046 = .ok (.invokevirtual 152, 3) := by decide +kernel
theorem dL_law_1049 : decode cL_law 1049 = .ok (.istore 6, 2) := by decide +kernel
theorem dL_law_1051 : decode cL_law 1051 = .ok (.aload_n 2, 1) := by decide +kernel
theorem dL_law_1052 : decode cL_law 1052 = .ok (.invokevirtual 87, 3) := by decide +kernel
theorem dL_law_1055 : decode cL_law 1055 = .ok (.iload 5, 2) := by decide +kernel
theorem dL_law_1057 : decode cL_law 1057 = .ok (.if_icmp .eq 5, 3) := by decide +kernel
theorem dL_law_1060 : decode cL_law 1060 = .ok (.iconst 0, 1) := by decide +kernel
theorem dL_law_1061 : decode cL_law 1061 = .ok (.ireturn, 1) := by decide +kernel
theorem dL_law_1062 : decode cL_law 1062 = .ok (.iload 5, 2) := by decide +kernel
theorem dL_law_1064 : decode cL_law 1064 = .ok (.ifCond .ne 15, 3) := by decide +kernel
theorem dL_law_1067 : decode cL_law 1067 = .ok (.aload_n 3, 1) := by decide +kernel
theorem dL_law_1068 : decode cL_law 1068 = .ok (.iconst 0, 1) := by decide +kernel
theorem dL_law_1069 : decode cL_law 1069 = .ok (.laload, 1) := by decide +kernel
theorem dL_law_1070 : decode cL_law 1070 = .ok (.iload 6, 2) := by decide +kernel
theorem dL_law_1072 : decode cL_law 1072 = .ok (.i2l, 1) := by decide +kernel
theorem dL_law_1073 : decode cL_law 1073 = .ok (.lcmp, 1) := by decide +kernel
theorem dL_law_1074 : decode cL_law 1074 = .ok (.ifCond .eq 5, 3) := by decide +kernel
theorem dL_law_1077 : decode cL_law 1077 = .ok (.iconst 0, 1) := by decide +kernel
theorem dL_law_1078 : decode cL_law 1078 = .ok (.ireturn, 1) := by decide +kernel
theorem dL_law_1079 : decode cL_law 1079 = .ok (.goto 464, 3) := by decide +kernel
theorem dL_law_1082 : decode cL_law 1082 = .ok (.aload_n 1, 1) := by decide +kernel
theorem dL_law_1083 : decode cL_law 1083 = .ok (.aload_n 0, 1) := by decide +kernel
theorem dL_law_1084 : decode cL_law 1084 = .ok (.iload 4, 2) := by decide +kernel
theorem dL_law_1086 : decode cL_law 1086 = .ok (.iconst 1, 1) := by decide +kernel
theorem dL_law_1087 : decode cL_law 1087 = .ok (.iadd, 1) := by decide +kernel
theorem dL_law_1088 : decode cL_law 1088 = .ok (.iaload, 1) := by decide +kernel
theorem dL_law_1089 : decode cL_law 1089 = .ok (.aload_n 3, 1) := by decide +kernel
theorem dL_law_1090 : decode cL_law 1090 = .ok (.invokestatic 153, 3) := by decide +kernel
theorem dL_law_1093 : decode cL_law 1093 = .ok (.istore 5, 2) := by decide +kernel
theorem dL_law_1095 : decode cL_law 1095 = .ok (.aload_n 2, 1) := by decide +kernel
theorem dL_law_1096 : decode cL_law 1096 = .ok (.aload_n 0, 1) := by decide +kernel
theorem dL_law_1097 : decode cL_law 1097 = .ok (.iload 4, 2) := by decide +kernel
theorem dL_law_1099 : decode cL_law 1099 = .ok (.iconst 1, 1) := by decide +kernel
theorem dL_law_1100 : decode cL_law 1100 = .ok (.iadd, 1) := by decide +kernel
theorem dL_law_1101 : decode cL_law 1101 = .ok (.iaload, 1) := by decide +kernel
theorem dL_law_1102 : decode cL_law 1102 = .ok (.invokevirtual 155, 3) := by decide +kernel
theorem dL_law_1105 : decode cL_law 1105 = .ok (.istore 6, 2) := by decide +kernel
theorem dL_law_1107 : decode cL_law 1107 = .ok (.aload_n 2, 1) := by decide +kernel
theorem dL_law_1108 : decode cL_law 1108 = .ok (.invokevirtual 87, 3) := by decide +kernel
theorem dL_law_1111 : decode cL_law 1111 = .ok (.iload 5, 2) := by decide +kernel
theorem dL_law_1113 : decode cL_law 1113 = .ok (.if_icmp .eq 5, 3) := by decide +kernel
theorem dL_law_1116 : decode cL_law 1116 = .ok (.iconst 0, 1) := by decide +kernel
theorem dL_law_1117 : decode cL_law 1117 = .ok (.ireturn, 1) := by decide +kernel
theorem dL_law_1118 : decode cL_law 1118 = .ok (.iload 5, 2) := by decide +kernel
theorem dL_law_1120 : decode cL_law 1120 = .ok (.ifCond .ne 15, 3) := by decide +kernel
theorem dL_law_1123 : decode cL_law 1123 = .ok (.aload_n 3, 1) := by decide +kernel
theorem dL_law_1124 : decode cL_law 1124 = .ok (.iconst 0, 1) := by decide +kernel
theorem dL_law_1125 : decode cL_law 1125 = .ok (.laload, 1) := by decide +kernel
theorem dL_law_1126 : decode cL_law 1126 = .ok (.iload 6, 2) := by decide +kernel
theorem dL_law_1128 : decode cL_law 1128 = .ok (.i2l, 1) := by decide +kernel
theorem dL_law_1129 : decode cL_law 1129 = .ok (.lcmp, 1) := by decide +kernel
theorem dL_law_1130 : decode cL_law 1130 = .ok (.ifCond .eq 5, 3) := by decide +kernel
theorem dL_law_1133 : decode cL_law 1133 = .ok (.iconst 0, 1) := by decide +kernel
theorem dL_law_1134 : decode cL_law 1134 = .ok (.ireturn, 1) := by decide +kernel
theorem dL_law_1135 : decode cL_law 1135 = .ok (.goto 408, 3) := by decide +kernel
theorem dL_law_1138 : decode cL_law 1138 = .ok (.aload_n 1, 1) := by decide +kernel
theorem dL_law_1139 : decode cL_law 1139 = .ok (.aload_n 0, 1) := by decide +kernel
theorem dL_law_1140 : decode cL_law 1140 = .ok (.iload 4, 2) := by decide +kernel
theorem dL_law_1142 : decode cL_law 1142 = .ok (.iconst 1, 1) := by decide +kernel
theorem dL_law_1143 : decode cL_law 1143 = .ok (.iadd, 1) := by decide +kernel
theorem dL_law_1144 : decode cL_law 1144 = .ok (.iaload, 1) := by decide +kernel
theorem dL_law_1145 : decode cL_law 1145 = .ok (.aload_n 3, 1) := by decide +kernel
theorem dL_law_1146 : decode cL_law 1146 = .ok (.invokestatic 156, 3) := by decide +kernel
theorem dL_law_1149 : decode cL_law 1149 = .ok (.istore 5, 2) := by decide +kernel
theorem dL_law_1151 : decode cL_law 1151 = .ok (.aload_n 2, 1) := by decide +kernel
theorem dL_law_1152 : decode cL_law 1152 = .ok (.aload_n 0, 1) := by decide +kernel
theorem dL_law_1153 : decode cL_law 1153 = .ok (.iload 4, 2) := by decide +kernel
theorem dL_law_1155 : decode cL_law 1155 = .ok (.iconst 1, 1) := by decide +kernel
theorem dL_law_1156 : decode cL_law 1156 = .ok (.iadd, 1) := by decide +kernel
theorem dL_law_1157 : decode cL_law 1157 = .ok (.iaload, 1) := by decide +kernel
theorem dL_law_1158 : decode cL_law 1158 = .ok (.invokevirtual 158, 3) := by decide +kernel
theorem dL_law_1161 : decode cL_law 1161 = .ok (.istore 6, 2) := by decide +kernel
theorem dL_law_1163 : decode cL_law 1163 = .ok (.aload_n 2, 1) := by decide +kernel
theorem dL_law_1164 : decode cL_law 1164 = .ok (.invokevirtual 87, 3) := by decide +kernel
theorem dL_law_1167 : decode cL_law 1167 = .ok (.iload 5, 2) := by decide +kernel
theorem dL_law_1169 : decode cL_law 1169 = .ok (.if_icmp .eq 5, 3) := by decide +kernel
theorem dL_law_1172 : decode cL_law 1172 = .ok (.iconst 0, 1) := by decide +kernel
theorem dL_law_1173 : decode cL_law 1173 = .ok (.ireturn, 1) := by decide +kernel
theorem dL_law_1174 : decode cL_law 1174 = .ok (.iload 5, 2) := by decide +kernel
theorem dL_law_1176 : decode cL_law 1176 = .ok (.ifCond .ne 15, 3) := by decide +kernel
theorem dL_law_1179 : decode cL_law 1179 = .ok (.aload_n 3, 1) := by decide +kernel
theorem dL_law_1180 : decode cL_law 1180 = .ok (.iconst 0, 1) := by decide +kernel
theorem dL_law_1181 : decode cL_law 1181 = .ok (.laload, 1) := by decide +kernel
theorem dL_law_1182 : decode cL_law 1182 = .ok (.iload 6, 2) := by decide +kernel
theorem dL_law_1184 : decode cL_law 1184 = .ok (.i2l, 1) := by decide +kernel
theorem dL_law_1185 : decode cL_law 1185 = .ok (.lcmp, 1) := by decide +kernel
theorem dL_law_1186 : decode cL_law 1186 = .ok (.ifCond .eq 5, 3) := by decide +kernel
theorem dL_law_1189 : decode cL_law 1189 = .ok (.iconst 0, 1) := by decide +kernel
theorem dL_law_1190 : decode cL_law 1190 = .ok (.ireturn, 1) := by decide +kernel
theorem dL_law_1191 : decode cL_law 1191 = .ok (.goto 352, 3) := by decide +kernel
theorem dL_law_1194 : decode cL_law 1194 = .ok (.aload_n 1, 1) := by decide +kernel
theorem dL_law_1195 : decode cL_law 1195 = .ok (.invokevirtual 159, 3) := by decide +kernel
theorem dL_law_1198 : decode cL_law 1198 = .ok (.aload_n 2, 1) := by decide +kernel
theorem dL_law_1199 : decode cL_law 1199 = .ok (.invokevirtual 162, 3) := by decide +kernel
theorem dL_law_1202 : decode cL_law 1202 = .ok (.if_icmp .eq 341, 3) := by decide +kernel
theorem dL_law_1205 : decode cL_law 1205 = .ok (.iconst 0, 1) := by decide +kernel
theorem dL_law_1206 : decode cL_law 1206 = .ok (.ireturn, 1) := by decide +kernel
theorem dL_law_1207 : decode cL_law 1207 = .ok (.aload_n 1, 1) := by decide +kernel
theorem dL_law_1208 : decode cL_law 1208 = .ok (.invokevirtual 163, 3) := by decide +kernel
theorem dL_law_1211 : decode cL_law 1211 = .ok (.aload_n 2, 1) := by decide +kernel
theorem dL_law_1212 : decode cL_law 1212 = .ok (.invokevirtual 166, 3) := by decide +kernel
theorem dL_law_1215 : decode cL_law 1215 = .ok (.if_icmp .eq 328, 3) := by decide +kernel
theorem dL_law_1218 : decode cL_law 1218 = .ok (.iconst 0, 1) := by decide +kernel
theorem dL_law_1219 : decode cL_law 1219 = .ok (.ireturn, 1) := by decide +kernel
theorem dL_law_1220 : decode cL_law 1220 = .ok (.aload_n 1, 1) := by decide +kernel
theorem dL_law_1221 : decode cL_law 1221 = .ok (.aload_n 0, 1) := by decide +kernel
theorem dL_law_1222 : decode cL_law 1222 = .ok (.iload 4, 2) := by decide +kernel
theorem dL_law_1224 : decode cL_law 1224 = .ok (.iconst 1, 1) := by decide +kernel
theorem dL_law_1225 : decode cL_law 1225 = .ok (.iadd, 1) := by decide +kernel
theorem dL_law_1226 : decode cL_law 1226 = .ok (.iaload, 1) := by decide +kernel
theorem dL_law_1227 : decode cL_law 1227 = .ok (.aload_n 3, 1) := by decide +kernel
theorem dL_law_1228 : decode cL_law 1228 = .ok (.invokestatic 167, 3) := by decide +kernel
theorem dL_law_1231 : decode cL_law 1231 = .ok (.istore 5, 2) := by decide +kernel
theorem dL_law_1233 : decode cL_law 1233 = .ok (.aload_n 2, 1) := by decide +kernel
theorem dL_law_1234 : decode cL_law 1234 = .ok (.aload_n 0, 1) := by decide +kernel
theorem dL_law_1235 : decode cL_law 1235 = .ok (.iload 4, 2) := by decide +kernel
theorem dL_law_1237 : decode cL_law 1237 = .ok (.iconst 1, 1) := by decide +kernel
theorem dL_law_1238 : decode cL_law 1238 = .ok (.iadd, 1) := by decide +kernel
theorem dL_law_1239 : decode cL_law 1239 = .ok (.iaload, 1) := by decide +kernel
theorem dL_law_1240 : decode cL_law 1240 = .ok (.invokevirtual 169, 3) := by decide +kernel
theorem dL_law_1243 : decode cL_law 1243 = .ok (.istore 6, 2) := by decide +kernel
theorem dL_law_1245 : decode cL_law 1245 = .ok (.aload_n 2, 1) := by decide +kernel
theorem dL_law_1246 : decode cL_law 1246 = .ok (.invokevirtual 87, 3) := by decide +kernel
theorem dL_law_1249 : decode cL_law 1249 = .ok (.iload 5, 2) := by decide +kernel
theorem dL_law_1251 : decode cL_law 1251 = .ok (.if_icmp .eq 5, 3) := by decide +kernel
theorem dL_law_1254 : decode cL_law 1254 = .ok (.iconst 0, 1) := by decide +kernel
theorem dL_law_1255 : decode cL_law 1255 = .ok (.ireturn, 1) := by decide +kernel
theorem dL_law_1256 : decode cL_law 1256 = .ok (.iload 5, 2) := by decide +kernel
theorem dL_law_1258 : decode cL_law 1258 = .ok (.ifCond .ne 22, 3) := by decide +kernel
theorem dL_law_1261 : decode cL_law 1261 = .ok (.aload_n 3, 1) := by decide +kernel
theorem dL_law_1262 : decode cL_law 1262 = .ok (.iconst 0, 1) := by decide +kernel
theorem dL_law_1263 : decode cL_law 1263 = .ok (.laload, 1) := by decide +kernel
theorem dL_law_1264 : decode cL_law 1264 = .ok (.iload 6, 2) := by decide +kernel
theorem dL_law_1266 : decode cL_law 1266 = .ok (.ifCond .eq 7, 3) := by decide +kernel
theorem dL_law_1269 : decode cL_law 1269 = .ok (.lconst 1, 1) := by decide +kernel
theorem dL_law_1270 : decode cL_law 1270 = .ok (.goto 4, 3) := by decide +kernel
theorem dL_law_1273 : decode cL_law 1273 = .ok (.lconst 0, 1) := by decide +kernel
theorem dL_law_1274 : decode cL_law 1274 = .ok (.lcmp, 1) := by decide +kernel
theorem dL_law_1275 : decode cL_law 1275 = .ok (.ifCond .eq 5, 3) := by decide +kernel
theorem dL_law_1278 : decode cL_law 1278 = .ok (.iconst 0, 1) := by decide +kernel
theorem dL_law_1279 : decode cL_law 1279 = .ok (.ireturn, 1) := by decide +kernel
theorem dL_law_1280 : decode cL_law 1280 = .ok (.goto 263, 3) := by decide +kernel
theorem dL_law_1283 : decode cL_law 1283 = .ok (.aload_n 1, 1) := by decide +kernel
theorem dL_law_1284 : decode cL_law 1284 = .ok (.invokevirtual 170, 3) := by decide +kernel
theorem dL_law_1287 : decode cL_law 1287 = .ok (.aload_n 2, 1) := by decide +kernel
theorem dL_law_1288 : decode cL_law 1288 = .ok (.invokevirtual 173, 3) := by decide +kernel
theorem dL_law_1291 : decode cL_law 1291 = .ok (.if_icmp .eq 252, 3) := by decide +kernel
theorem dL_law_1294 : decode cL_law 1294 = .ok (.iconst 0, 1) := by decide +kernel
theorem dL_law_1295 : decode cL_law 1295 = .ok (.ireturn, 1) := by decide +kernel
theorem dL_law_1296 : decode cL_law 1296 = .ok (.aload_n 1, 1) := by decide +kernel
theorem dL_law_1297 : decode cL_law 1297 = .ok (.invokevirtual 174, 3) := by decide +kernel
theorem dL_law_1300 : decode cL_law 1300 = .ok (.aload_n 2, 1) := by decide +kernel
theorem dL_law_1301 : decode cL_law 1301 = .ok (.invokevirtual 177, 3) := by decide +kernel
theorem dL_law_1304 : decode cL_law 1304 = .ok (.if_icmp .eq 239, 3) := by decide +kernel
theorem dL_law_1307 : decode cL_law 1307 = .ok (.iconst 0, 1) := by decide +kernel
theorem dL_law_1308 : decode cL_law 1308 = .ok (.ireturn, 1) := by decide +kernel
theorem dL_law_1309 : decode cL_law 1309 = .ok (.aload_n 1, 1) := by decide +kernel
theorem dL_law_1310 : decode cL_law 1310 = .ok (.invokevirtual 178, 3) := by decide +kernel
theorem dL_law_1313 : decode cL_law 1313 = .ok (.aload_n 2, 1) := by decide +kernel
theorem dL_law_1314 : decode cL_law 1314 = .ok (.invokevirtual 181, 3) := by decide +kernel
theorem dL_law_1317 : decode cL_law 1317 = .ok (.if_icmp .eq 226, 3) := by decide +kernel
theorem dL_law_1320 : decode cL_law 1320 = .ok (.iconst 0, 1) := by decide +kernel
theorem dL_law_1321 : decode cL_law 1321 = .ok (.ireturn, 1) := by decide +kernel
theorem dL_law_1322 : decode cL_law 1322 = .ok (.aload_n 1, 1) := by decide +kernel
theorem dL_law_1323 : decode cL_law 1323 = .ok (.invokevirtual 182, 3) := by decide +kernel
theorem dL_law_1326 : decode cL_law 1326 = .ok (.aload_n 2, 1) := by decide +kernel
theorem dL_law_1327 : decode cL_law 1327 = .ok (.invokevirtual 185, 3) := by decide +kernel
theorem dL_law_1330 : decode cL_law 1330 = .ok (.if_icmp .eq 213, 3) := by decide +kernel
theorem dL_law_1333 : decode cL_law 1333 = .ok (.iconst 0, 1) := by decide +kernel
theorem dL_law_1334 : decode cL_law 1334 = .ok (.ireturn, 1) := by decide +kernel
theorem dL_law_1335 : decode cL_law 1335 = .ok (.aload_n 1, 1) := by decide +kernel
theorem dL_law_1336 : decode cL_law 1336 = .ok (.aload_n 0, 1) := by decide +kernel
theorem dL_law_1337 : decode cL_law 1337 = .ok (.iload 4, 2) := by decide +kernel
theorem dL_law_1339 : decode cL_law 1339 = .ok (.iconst 1, 1) := by decide +kernel
theorem dL_law_1340 : decode cL_law 1340 = .ok (.iadd, 1) := by decide +kernel
theorem dL_law_1341 : decode cL_law 1341 = .ok (.iaload, 1) := by decide +kernel
theorem dL_law_1342 : decode cL_law 1342 = .ok (.aload_n 3, 1) := by decide +kernel
theorem dL_law_1343 : decode cL_law 1343 = .ok (.invokestatic 186, 3) := by decide +kernel
theorem dL_law_1346 : decode cL_law 1346 = .ok (.istore 5, 2) := by decide +kernel
theorem dL_law_1348 : decode cL_law 1348 = .ok (.aload_n 2, 1) := by decide +kernel
theorem dL_law_1349 : decode cL_law 1349 = .ok (.aload_n 0, 1) := by decide +kernel
theorem dL_law_1350 : decode cL_law 1350 = .ok (.iload 4, 2) := by decide +kernel
theorem dL_law_1352 : decode cL_law 1352 = .ok (.iconst 1, 1) := by decide +kernel
theorem dL_law_1353 : decode cL_law 1353 = .ok (.iadd, 1) := by decide +kernel
theorem dL_law_1354 : decode cL_law 1354 = .ok (.iaload, 1) := by decide +kernel
theorem dL_law_1355 : decode cL_law 1355 = .ok (.invokevirtual 188, 3) := by decide +kernel
theorem dL_law_1358 : decode cL_law 1358 = .ok (.istore 6, 2) := by decide +kernel
theorem dL_law_1360 : decode cL_law 1360 = .ok (.aload_n 2, 1) := by decide +kernel
theorem dL_law_1361 : decode cL_law 1361 = .ok (.invokevirtual 87, 3) := by decide +kernel
theorem dL_law_1364 : decode cL_law 1364 = .ok (.iload 5, 2) := by decide +kernel
theorem dL_law_1366 : decode cL_law 1366 = .ok (.if_icmp .eq 5, 3) := by decide +kernel
theorem dL_law_1369 : decode cL_law 1369 = .ok (.iconst 0, 1) := by decide +kernel
theorem dL_law_1370 : decode cL_law 1370 = .ok (.ireturn, 1) := by decide +kernel
theorem dL_law_1371 : decode cL_law 1371 = .ok (.iload 5, 2) := by decide +kernel
theorem dL_law_1373 : decode cL_law 1373 = .ok (.ifCond .ne 15, 3) := by decide +kernel
theorem dL_law_1376 : decode cL_law 1376 = .ok (.aload_n 3, 1) := by decide +kernel
theorem dL_law_1377 : decode cL_law 1377 = .ok (.iconst 0, 1) := by decide +kernel
theorem dL_law_1378 : decode cL_law 1378 = .ok (.laload, 1) := by decide +kernel
theorem dL_law_1379 : decode cL_law 1379 = .ok (.iload 6, 2) := by decide +kernel
theorem dL_law_1381 : decode cL_law 1381 = .ok (.i2l, 1) := by decide +kernel
theorem dL_law_1382 : decode cL_law 1382 = .ok (.lcmp, 1) := by decide +kernel
theorem dL_law_1383 : decode cL_law 1383 = .ok (.ifCond .eq 5, 3) := by decide +kernel
theorem dL_law_1386 : decode cL_law 1386 = .ok (.iconst 0, 1) := by decide +kernel
theorem dL_law_1387 : decode cL_law 1387 = .ok (.ireturn, 1) := by decide +kernel
theorem dL_law_1388 : decode cL_law 1388 = .ok (.goto 155, 3) := by decide +kernel
theorem dL_law_1391 : decode cL_law 1391 = .ok (.aload_n 1, 1) := by decide +kernel
theorem dL_law_1392 : decode cL_law 1392 = .ok (.invokevirtual 189, 3) := by decide +kernel
theorem dL_law_1395 : decode cL_law 1395 = .ok (.aload_n 2, 1) := by decide +kernel
theorem dL_law_1396 : decode cL_law 1396 = .ok (.invokevirtual 192, 3) := by decide +kernel
theorem dL_law_1399 : decode cL_law 1399 = .ok (.if_icmp .eq 144, 3) := by decide +kernel
theorem dL_law_1402 : decode cL_law 1402 = .ok (.iconst 0, 1) := by decide +kernel
theorem dL_law_1403 : decode cL_law 1403 = .ok (.ireturn, 1) := by decide +kernel
theorem dL_law_1404 : decode cL_law 1404 = .ok (.aload_n 1, 1) := by decide +kernel
theorem dL_law_1405 : decode cL_law 1405 = .ok (.aload_n 0, 1) := by decide +kernel
theorem dL_law_1406 : decode cL_law 1406 = .ok (.iload 4, 2) := by decide +kernel
theorem dL_law_1408 : decode cL_law 1408 = .ok (.iconst 1, 1) := by decide +kernel
theorem dL_law_1409 : decode cL_law 1409 = .ok (.iadd, 1) := by decide +kernel
theorem dL_law_1410 : decode cL_law 1410 = .ok (.iaload, 1) := by decide +kernel
theorem dL_law_1411 : decode cL_law 1411 = .ok (.aload_n 0, 1) := by decide +kernel
theorem dL_law_1412 : decode cL_law 1412 = .ok (.iload 4, 2) := by decide +kernel
theorem dL_law_1414 : decode cL_law 1414 = .ok (.iconst 2, 1) := by decide +kernel
theorem dL_law_1415 : decode cL_law 1415 = .ok (.iadd, 1) := by decide +kernel
theorem dL_law_1416 : decode cL_law 1416 = .ok (.iaload, 1) := by decide +kernel
theorem dL_law_1417 : decode cL_law 1417 = .ok (.ifCond .eq 7, 3) := by decide +kernel
theorem dL_law_1420 : decode cL_law 1420 = .ok (.iconst 1, 1) := by decide +kernel
theorem dL_law_1421 : decode cL_law 1421 = .ok (.goto 4, 3) := by decide +kernel
theorem dL_law_1424 : decode cL_law 1424 = .ok (.iconst 0, 1) := by decide +kernel
theorem dL_law_1425 : decode cL_law 1425 = .ok (.aload_n 3, 1) := by decide +kernel
theorem dL_law_1426 : decode cL_law 1426 = .ok (.invokestatic 193, 3) := by decide +kernel
theorem dL_law_1429 : decode cL_law 1429 = .ok (.istore 5, 2) := by decide +kernel
theorem dL_law_1431 : decode cL_law 1431 = .ok (.aload_n 2, 1) := by decide +kernel
theorem dL_law_1432 : decode cL_law 1432 = .ok (.aload_n 0, 1) := by decide +kernel
theorem dL_law_1433 : decode cL_law 1433 = .ok (.iload 4, 2) := by decide +kernel
theorem dL_law_1435 : decode cL_law 1435 = .ok (.iconst 1, 1) := by decide +kernel
theorem dL_law_1436 : decode cL_law 1436 = .ok (.iadd, 1) := by decide +kernel
theorem dL_law_1437 : decode cL_law 1437 = .ok (.iaload, 1) := by decide +kernel
theorem dL_law_1438 : decode cL_law 1438 = .ok (.aload_n 0, 1) := by decide +kernel
theorem dL_law_1439 : decode cL_law 1439 = .ok (.iload 4, 2) := by decide +kernel
theorem dL_law_1441 : decode cL_law 1441 = .ok (.iconst 2, 1) := by decide +kernel
theorem dL_law_1442 : decode cL_law 1442 = .ok (.iadd, 1) := by decide +kernel
theorem dL_law_1443 : decode cL_law 1443 = .ok (.iaload, 1) := by decide +kernel
theorem dL_law_1444 : decode cL_law 1444 = .ok (.ifCond .eq 7, 3) := by decide +kernel
theorem dL_law_1447 : decode cL_law 1447 = .ok (.iconst 1, 1) := by decide +kernel
theorem dL_law_1448 : decode cL_law 1448 = .ok (.goto 4, 3) := by decide +kernel
theorem dL_law_1451 : decode cL_law 1451 = .ok (.iconst 0, 1) := by decide +kernel
theorem dL_law_1452 : decode cL_law 1452 = .ok (.invokevirtual 195, 3) := by decide +kernel
theorem dL_law_1455 : decode cL_law 1455 = .ok (.istore 6, 2) := by decide +kernel
theorem dL_law_1457 : decode cL_law 1457 = .ok (.aload_n 2, 1) := by decide +kernel
theorem dL_law_1458 : decode cL_law 1458 = .ok (.invokevirtual 87, 3) := by decide +kernel
theorem dL_law_1461 : decode cL_law 1461 = .ok (.iload 5, 2) := by decide +kernel
theorem dL_law_1463 : decode cL_law 1463 = .ok (.if_icmp .eq 5, 3) := by decide +kernel
theorem dL_law_1466 : decode cL_law 1466 = .ok (.iconst 0, 1) := by decide +kernel
theorem dL_law_1467 : decode cL_law 1467 = .ok (.ireturn, 1) := by decide +kernel
theorem dL_law_1468 : decode cL_law 1468 = .ok (.iload 5, 2) := by decide +kernel
theorem dL_law_1470 : decode cL_law 1470 = .ok (.ifCond .ne 15, 3) := by decide +kernel
theorem dL_law_1473 : decode cL_law 1473 = .ok (.aload_n 3, 1) := by decide +kernel
theorem dL_law_1474 : decode cL_law 1474 = .ok (.iconst 0, 1) := by decide +kernel
theorem dL_law_1475 : decode cL_law 1475 = .ok (.laload, 1) := by decide +kernel
theorem dL_law_1476 : decode cL_law 1476 = .ok (.iload 6, 2) := by decide +kernel
theorem dL_law_1478 : decode cL_law 1478 = .ok (.i2l, 1) := by decide +kernel
theorem dL_law_1479 : decode cL_law 1479 = .ok (.lcmp, 1) := by decide +kernel
theorem dL_law_1480 : decode cL_law 1480 = .ok (.ifCond .eq 5, 3) := by decide +kernel
theorem dL_law_1483 : decode cL_law 1483 = .ok (.iconst 0, 1) := by decide +kernel
theorem dL_law_1484 : decode cL_law 1484 = .ok (.ireturn, 1) := by decide +kernel
theorem dL_law_1485 : decode cL_law 1485 = .ok (.goto 58, 3) := by decide +kernel
theorem dL_law_1488 : decode cL_law 1488 = .ok (.aload_n 1, 1) := by decide +kernel
theorem dL_law_1489 : decode cL_law 1489 = .ok (.invokevirtual 196, 3) := by decide +kernel
theorem dL_law_1492 : decode cL_law 1492 = .ok (.dstore 5, 2) := by decide +kernel
theorem dL_law_1494 : decode cL_law 1494 = .ok (.aload_n 2, 1) := by decide +kernel
theorem dL_law_1495 : decode cL_law 1495 = .ok (.invokevirtual 200, 3) := by decide +kernel
theorem dL_law_1498 : decode cL_law 1498 = .ok (.dstore 7, 2) := by decide +kernel
theorem dL_law_1500 : decode cL_law 1500 = .ok (.dload 5, 2) := by decide +kernel
theorem dL_law_1502 : decode cL_law 1502 = .ok (.dload 7, 2) := by decide +kernel
theorem dL_law_1504 : decode cL_law 1504 = .ok (.dcmp .l, 1) := by decide +kernel
theorem dL_law_1505 : decode cL_law 1505 = .ok (.ifCond .eq 21, 3) := by decide +kernel
theorem dL_law_1508 : decode cL_law 1508 = .ok (.dload 5, 2) := by decide +kernel
theorem dL_law_1510 : decode cL_law 1510 = .ok (.dload 5, 2) := by decide +kernel
theorem dL_law_1512 : decode cL_law 1512 = .ok (.dcmp .l, 1) := by decide +kernel
theorem dL_law_1513 : decode cL_law 1513 = .ok (.ifCond .eq 11, 3) := by decide +kernel
theorem dL_law_1516 : decode cL_law 1516 = .ok (.dload 7, 2) := by decide +kernel
theorem dL_law_1518 : decode cL_law 1518 = .ok (.dload 7, 2) := by decide +kernel
theorem dL_law_1520 : decode cL_law 1520 = .ok (.dcmp .l, 1) := by decide +kernel
theorem dL_law_1521 : decode cL_law 1521 = .ok (.ifCond .ne 5, 3) := by decide +kernel
theorem dL_law_1524 : decode cL_law 1524 = .ok (.iconst 0, 1) := by decide +kernel
theorem dL_law_1525 : decode cL_law 1525 = .ok (.ireturn, 1) := by decide +kernel
theorem dL_law_1526 : decode cL_law 1526 = .ok (.goto 17, 3) := by decide +kernel
theorem dL_law_1529 : decode cL_law 1529 = .ok (.aload_n 1, 1) := by decide +kernel
theorem dL_law_1530 : decode cL_law 1530 = .ok (.invokevirtual 201, 3) := by decide +kernel
theorem dL_law_1533 : decode cL_law 1533 = .ok (.aload_n 2, 1) := by decide +kernel
theorem dL_law_1534 : decode cL_law 1534 = .ok (.invokevirtual 205, 3) := by decide +kernel
theorem dL_law_1537 : decode cL_law 1537 = .ok (.lcmp, 1) := by decide +kernel
theorem dL_law_1538 : decode cL_law 1538 = .ok (.ifCond .eq 5, 3) := by decide +kernel
theorem dL_law_1541 : decode cL_law 1541 = .ok (.iconst 0, 1) := by decide +kernel
theorem dL_law_1542 : decode cL_law 1542 = .ok (.ireturn, 1) := by decide +kernel
theorem dL_law_1543 : decode cL_law 1543 = .ok (.iinc 4 3, 3) := by decide +kernel
theorem dL_law_1546 : decode cL_law 1546 = .ok (.goto (-1523), 3) := by decide +kernel
theorem dL_law_1549 : decode cL_law 1549 = .ok (.iconst 1, 1) := by decide +kernel
theorem dL_law_1550 : decode cL_law 1550 = .ok (.ireturn, 1) := by decide +kernel
abbrev vwCl : List vw_C := [(RX0, TX0, 10), (RX1, TX1, 10)]
