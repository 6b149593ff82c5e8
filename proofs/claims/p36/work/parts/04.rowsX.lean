theorem dX0_init_0 : decode cX0_init 0 = .ok (.aload_n 0, 1) := by decide +kernel
theorem dX0_init_1 : decode cX0_init 1 = .ok (.invokespecial 3, 3) := by decide +kernel
theorem dX0_init_4 : decode cX0_init 4 = .ok (.aload_n 0, 1) := by decide +kernel
theorem dX0_init_5 : decode cX0_init 5 = .ok (.iconst 0, 1) := by decide +kernel
theorem dX0_init_6 : decode cX0_init 6 = .ok (.putfield 9, 3) := by decide +kernel
theorem dX0_init_9 : decode cX0_init 9 = .ok (.aload_n 0, 1) := by decide +kernel
theorem dX0_init_10 : decode cX0_init 10 = .ok (.iconst 0, 1) := by decide +kernel
theorem dX0_init_11 : decode cX0_init 11 = .ok (.putfield 13, 3) := by decide +kernel
theorem dX0_init_14 : decode cX0_init 14 = .ok (.aload_n 0, 1) := by decide +kernel
theorem dX0_init_15 : decode cX0_init 15 = .ok (.bipush 40, 2) := by decide +kernel
theorem dX0_init_17 : decode cX0_init 17 = .ok (.newarray .int, 2) := by decide +kernel
theorem dX0_init_19 : decode cX0_init 19 = .ok (.putfield 16, 3) := by decide +kernel
theorem dX0_init_22 : decode cX0_init 22 = .ok (.aload_n 0, 1) := by decide +kernel
theorem dX0_init_23 : decode cX0_init 23 = .ok (.bipush 40, 2) := by decide +kernel
theorem dX0_init_25 : decode cX0_init 25 = .ok (.newarray .boolean, 2) := by decide +kernel
theorem dX0_init_27 : decode cX0_init 27 = .ok (.putfield 20, 3) := by decide +kernel
theorem dX0_init_30 : decode cX0_init 30 = .ok (.aload_n 0, 1) := by decide +kernel
theorem dX0_init_31 : decode cX0_init 31 = .ok (.sipush 256, 3) := by decide +kernel
theorem dX0_init_34 : decode cX0_init 34 = .ok (.newarray .int, 2) := by decide +kernel
theorem dX0_init_36 : decode cX0_init 36 = .ok (.putfield 24, 3) := by decide +kernel
theorem dX0_init_39 : decode cX0_init 39 = .ok (.aload_n 0, 1) := by decide +kernel
theorem dX0_init_40 : decode cX0_init 40 = .ok (.iconst 0, 1) := by decide +kernel
theorem dX0_init_41 : decode cX0_init 41 = .ok (.putfield 27, 3) := by decide +kernel
theorem dX0_init_44 : decode cX0_init 44 = .ok (.aload_n 0, 1) := by decide +kernel
theorem dX0_init_45 : decode cX0_init 45 = .ok (.bipush 8, 2) := by decide +kernel
theorem dX0_init_47 : decode cX0_init 47 = .ok (.newarray .int, 2) := by decide +kernel
theorem dX0_init_49 : decode cX0_init 49 = .ok (.putfield 30, 3) := by decide +kernel
theorem dX0_init_52 : decode cX0_init 52 = .ok (.aload_n 0, 1) := by decide +kernel
theorem dX0_init_53 : decode cX0_init 53 = .ok (.bipush 8, 2) := by decide +kernel
theorem dX0_init_55 : decode cX0_init 55 = .ok (.newarray .int, 2) := by decide +kernel
theorem dX0_init_57 : decode cX0_init 57 = .ok (.putfield 33, 3) := by decide +kernel
theorem dX0_init_60 : decode cX0_init 60 = .ok (.aload_n 0, 1) := by decide +kernel
theorem dX0_init_61 : decode cX0_init 61 = .ok (.bipush 8, 2) := by decide +kernel
theorem dX0_init_63 : decode cX0_init 63 = .ok (.newarray .int, 2) := by decide +kernel
theorem dX0_init_65 : decode cX0_init 65 = .ok (.putfield 36, 3) := by decide +kernel
theorem dX0_init_68 : decode cX0_init 68 = .ok (.aload_n 0, 1) := by decide +kernel
theorem dX0_init_69 : decode cX0_init 69 = .ok (.iconst 0, 1) := by decide +kernel
theorem dX0_init_70 : decode cX0_init 70 = .ok (.putfield 39, 3) := by decide +kernel
theorem dX0_init_73 : decode cX0_init 73 = .ok (.return_, 1) := by decide +kernel
theorem dX0_addThing_0 : decode cX0_addThing 0 = .ok (.aload_n 0, 1) := by decide +kernel
theorem dX0_addThing_1 : decode cX0_addThing 1 = .ok (.getfield 9, 3) := by decide +kernel
theorem dX0_addThing_4 : decode cX0_addThing 4 = .ok (.bipush 8, 2) := by decide +kernel
theorem dX0_addThing_6 : decode cX0_addThing 6 = .ok (.if_icmp .lt 13, 3) := by decide +kernel
theorem dX0_addThing_9 : decode cX0_addThing 9 = .ok (.new 42, 3) := by decide +kernel
theorem dX0_addThing_12 : decode cX0_addThing 12 = .ok (.dup, 1) := by decide +kernel
theorem dX0_addThing_13 : decode cX0_addThing 13 = .ok (.ldc 44, 2) := by decide +kernel
theorem dX0_addThing_15 : decode cX0_addThing 15 = .ok (.invokespecial 46, 3) := by decide +kernel
theorem dX0_addThing_18 : decode cX0_addThing 18 = .ok (.athrow, 1) := by decide +kernel
theorem dX0_addThing_19 : decode cX0_addThing 19 = .ok (.aload_n 0, 1) := by decide +kernel
theorem dX0_addThing_20 : decode cX0_addThing 20 = .ok (.getfield 9, 3) := by decide +kernel
theorem dX0_addThing_23 : decode cX0_addThing 23 = .ok (.istore_n 1, 1) := by decide +kernel
theorem dX0_addThing_24 : decode cX0_addThing 24 = .ok (.aload_n 0, 1) := by decide +kernel
theorem dX0_addThing_25 : decode cX0_addThing 25 = .ok (.dup, 1) := by decide +kernel
theorem dX0_addThing_26 : decode cX0_addThing 26 = .ok (.getfield 9, 3) := by decide +kernel
theorem dX0_addThing_29 : decode cX0_addThing 29 = .ok (.iconst 1, 1) := by decide +kernel
theorem dX0_addThing_30 : decode cX0_addThing 30 = .ok (.iadd, 1) := by decide +kernel
theorem dX0_addThing_31 : decode cX0_addThing 31 = .ok (.putfield 9, 3) := by decide +kernel
theorem dX0_addThing_34 : decode cX0_addThing 34 = .ok (.iload_n 1, 1) := by decide +kernel
theorem dX0_addThing_35 : decode cX0_addThing 35 = .ok (.ireturn, 1) := by decide +kernel
set_option maxRecDepth 20000 in
theorem ggX0_addAstronomer_X0_letBlame : GoodIn wsX0_addAstronomer wsX0_letBlame := goodIn_r _ [11, 12, 13, 6, 14, 15, 16, 17, 18, 19, 20, 21, 22, 23] (by decide +kernel) (by decide +kernel)
set_option maxRecDepth 20000 in
theorem gX0_addAstronomer_X0_letBlame : GoodIn wsX0_addAstronomer (wsV RX0 56 RX0 yX0_letBlame wsX0_letBlame) := goodIn_app (goodIn_of _ (by decide +kernel)) ggX0_addAstronomer_X0_letBlame
theorem dX0_addAstronomer_0 : decode cX0_addAstronomer 0 = .ok (.iload_n 1, 1) := by decide +kernel
theorem dX0_addAstronomer_1 : decode cX0_addAstronomer 1 = .ok (.ifCond .lt 8, 3) := by decide +kernel
theorem dX0_addAstronomer_4 : decode cX0_addAstronomer 4 = .ok (.iload_n 1, 1) := by decide +kernel
theorem dX0_addAstronomer_5 : decode cX0_addAstronomer 5 = .ok (.iconst 5, 1) := by decide +kernel
theorem dX0_addAstronomer_6 : decode cX0_addAstronomer 6 = .ok (.if_icmp .le 13, 3) := by decide +kernel
theorem dX0_addAstronomer_9 : decode cX0_addAstronomer 9 = .ok (.new 49, 3) := by decide +kernel
theorem dX0_addAstronomer_12 : decode cX0_addAstronomer 12 = .ok (.dup, 1) := by decide +kernel
theorem dX0_addAstronomer_13 : decode cX0_addAstronomer 13 = .ok (.ldc 51, 2) := by decide +kernel
theorem dX0_addAstronomer_15 : decode cX0_addAstronomer 15 = .ok (.invokespecial 53, 3) := by decide +kernel
theorem dX0_addAstronomer_18 : decode cX0_addAstronomer 18 = .ok (.athrow, 1) := by decide +kernel
theorem dX0_addAstronomer_19 : decode cX0_addAstronomer 19 = .ok (.aload_n 0, 1) := by decide +kernel
theorem dX0_addAstronomer_20 : decode cX0_addAstronomer 20 = .ok (.getfield 27, 3) := by decide +kernel
theorem dX0_addAstronomer_23 : decode cX0_addAstronomer 23 = .ok (.bipush 8, 2) := by decide +kernel
theorem dX0_addAstronomer_25 : decode cX0_addAstronomer 25 = .ok (.if_icmp .lt 13, 3) := by decide +kernel
theorem dX0_addAstronomer_28 : decode cX0_addAstronomer 28 = .ok (.new 42, 3) := by decide +kernel
theorem dX0_addAstronomer_31 : decode cX0_addAstronomer 31 = .ok (.dup, 1) := by decide +kernel
theorem dX0_addAstronomer_32 : decode cX0_addAstronomer 32 = .ok (.ldc 54, 2) := by decide +kernel
theorem dX0_addAstronomer_34 : decode cX0_addAstronomer 34 = .ok (.invokespecial 46, 3) := by decide +kernel
theorem dX0_addAstronomer_37 : decode cX0_addAstronomer 37 = .ok (.athrow, 1) := by decide +kernel
theorem dX0_addAstronomer_38 : decode cX0_addAstronomer 38 = .ok (.aload_n 0, 1) := by decide +kernel
theorem dX0_addAstronomer_39 : decode cX0_addAstronomer 39 = .ok (.getfield 27, 3) := by decide +kernel
theorem dX0_addAstronomer_42 : decode cX0_addAstronomer 42 = .ok (.istore_n 2, 1) := by decide +kernel
theorem dX0_addAstronomer_43 : decode cX0_addAstronomer 43 = .ok (.aload_n 0, 1) := by decide +kernel
theorem dX0_addAstronomer_44 : decode cX0_addAstronomer 44 = .ok (.getfield 36, 3) := by decide +kernel
theorem dX0_addAstronomer_47 : decode cX0_addAstronomer 47 = .ok (.iload_n 2, 1) := by decide +kernel
theorem dX0_addAstronomer_48 : decode cX0_addAstronomer 48 = .ok (.iload_n 1, 1) := by decide +kernel
theorem dX0_addAstronomer_49 : decode cX0_addAstronomer 49 = .ok (.iastore, 1) := by decide +kernel
theorem dX0_addAstronomer_50 : decode cX0_addAstronomer 50 = .ok (.aload_n 0, 1) := by decide +kernel
theorem dX0_addAstronomer_51 : decode cX0_addAstronomer 51 = .ok (.iload_n 2, 1) := by decide +kernel
theorem dX0_addAstronomer_52 : decode cX0_addAstronomer 52 = .ok (.iconst 0, 1) := by decide +kernel
theorem dX0_addAstronomer_53 : decode cX0_addAstronomer 53 = .ok (.invokevirtual 56, 3) := by decide +kernel
theorem dX0_addAstronomer_56 : decode cX0_addAstronomer 56 = .ok (.aload_n 0, 1) := by decide +kernel
theorem dX0_addAstronomer_57 : decode cX0_addAstronomer 57 = .ok (.dup, 1) := by decide +kernel
theorem dX0_addAstronomer_58 : decode cX0_addAstronomer 58 = .ok (.getfield 27, 3) := by decide +kernel
theorem dX0_addAstronomer_61 : decode cX0_addAstronomer 61 = .ok (.iconst 1, 1) := by decide +kernel
theorem dX0_addAstronomer_62 : decode cX0_addAstronomer 62 = .ok (.iadd, 1) := by decide +kernel
theorem dX0_addAstronomer_63 : decode cX0_addAstronomer 63 = .ok (.putfield 27, 3) := by decide +kernel
theorem dX0_addAstronomer_66 : decode cX0_addAstronomer 66 = .ok (.iload_n 2, 1) := by decide +kernel
theorem dX0_addAstronomer_67 : decode cX0_addAstronomer 67 = .ok (.ireturn, 1) := by decide +kernel
set_option maxRecDepth 20000 in
theorem ggX0_blame_X0_requireAstronomer : GoodIn wsX0_blame wsX0_requireAstronomer := goodIn_ca (goodIn_r _ [6, 7, 8, 9, 27, 28, 29, 30, 31, 32, 33, 34, 35, 36] (by decide +kernel) (by decide +kernel)) (goodIn_sub (fun _ h => List.mem_cons_of_mem _ (List.mem_append_left _ (List.mem_append_right _ h))) (by decide +kernel))
set_option maxRecDepth 20000 in
theorem gX0_blame_X0_requireAstronomer : GoodIn wsX0_blame (wsV RX0 60 RX0 yX0_requireAstronomer wsX0_requireAstronomer) := goodIn_app (goodIn_of _ (by decide +kernel)) ggX0_blame_X0_requireAstronomer
set_option maxRecDepth 20000 in
theorem ggX0_blame_X0_requireSet : GoodIn wsX0_blame wsX0_requireSet := goodIn_ca (goodIn_r _ [13, 14, 15, 16, 17, 18, 5, 19, 20, 27, 28, 29, 30, 31, 32, 33, 34, 35, 36] (by decide +kernel) (by decide +kernel)) (goodIn_sub (fun _ h => List.mem_cons_of_mem _ (List.mem_append_right _ h)) (by decide +kernel))
set_option maxRecDepth 20000 in
theorem gX0_blame_X0_requireSet : GoodIn wsX0_blame (wsV RX0 64 RX0 yX0_requireSet wsX0_requireSet) := goodIn_app (goodIn_of _ (by decide +kernel)) ggX0_blame_X0_requireSet
set_option maxRecDepth 20000 in
theorem ggX0_blame_X0_letBlame : GoodIn wsX0_blame wsX0_letBlame := goodIn_r _ [24, 1, 25, 26, 27, 28, 29, 30, 31, 32, 33, 34, 35, 36] (by decide +kernel) (by decide +kernel)
set_option maxRecDepth 20000 in
theorem gX0_blame_X0_letBlame : GoodIn wsX0_blame (wsV RX0 56 RX0 yX0_letBlame wsX0_letBlame) := goodIn_app (goodIn_of _ (by decide +kernel)) ggX0_blame_X0_letBlame
theorem dX0_blame_0 : decode cX0_blame 0 = .ok (.aload_n 0, 1) := by decide +kernel
theorem dX0_blame_1 : decode cX0_blame 1 = .ok (.iload_n 1, 1) := by decide +kernel
theorem dX0_blame_2 : decode cX0_blame 2 = .ok (.invokevirtual 60, 3) := by decide +kernel
theorem dX0_blame_5 : decode cX0_blame 5 = .ok (.aload_n 0, 1) := by decide +kernel
theorem dX0_blame_6 : decode cX0_blame 6 = .ok (.iload_n 2, 1) := by decide +kernel
theorem dX0_blame_7 : decode cX0_blame 7 = .ok (.invokevirtual 64, 3) := by decide +kernel
theorem dX0_blame_10 : decode cX0_blame 10 = .ok (.aload_n 0, 1) := by decide +kernel
theorem dX0_blame_11 : decode cX0_blame 11 = .ok (.getfield 30, 3) := by decide +kernel
theorem dX0_blame_14 : decode cX0_blame 14 = .ok (.iload_n 1, 1) := by decide +kernel
theorem dX0_blame_15 : decode cX0_blame 15 = .ok (.iaload, 1) := by decide +kernel
theorem dX0_blame_16 : decode cX0_blame 16 = .ok (.istore_n 3, 1) := by decide +kernel
theorem dX0_blame_17 : decode cX0_blame 17 = .ok (.aload_n 0, 1) := by decide +kernel
theorem dX0_blame_18 : decode cX0_blame 18 = .ok (.iload_n 1, 1) := by decide +kernel
theorem dX0_blame_19 : decode cX0_blame 19 = .ok (.iload_n 2, 1) := by decide +kernel
theorem dX0_blame_20 : decode cX0_blame 20 = .ok (.invokevirtual 56, 3) := by decide +kernel
theorem dX0_blame_23 : decode cX0_blame 23 = .ok (.iload_n 3, 1) := by decide +kernel
theorem dX0_blame_24 : decode cX0_blame 24 = .ok (.ireturn, 1) := by decide +kernel
set_option maxRecDepth 20000 in
theorem ggX0_writeDown_X0_requireUsableSet : GoodIn wsX0_writeDown wsX0_requireUsableSet := goodIn_ca (goodIn_r _ [9, 10, 11, 12, 13, 14, 8, 15, 16, 58, 59, 60, 61, 62, 63, 64, 65, 66, 67] (by decide +kernel) (by decide +kernel)) (goodIn_sub (fun _ h => List.mem_cons_of_mem _ (List.mem_append_left _ (List.mem_append_right _ h))) (by decide +kernel))
set_option maxRecDepth 20000 in
theorem gX0_writeDown_X0_requireUsableSet : GoodIn wsX0_writeDown (wsV RX0 67 RX0 yX0_requireUsableSet wsX0_requireUsableSet) := goodIn_app (goodIn_of _ (by decide +kernel)) ggX0_writeDown_X0_requireUsableSet
set_option maxRecDepth 20000 in
theorem ggX0_writeDown_X0_requireRoomForNight : GoodIn wsX0_writeDown wsX0_requireRoomForNight := goodIn_ca (goodIn_r _ [20, 21, 22, 2, 58, 59, 60, 61, 62, 63, 64, 65, 66, 67] (by decide +kernel) (by decide +kernel)) (goodIn_sub (fun _ h => List.mem_cons_of_mem _ (List.mem_append_right _ h)) (by decide +kernel))
set_option maxRecDepth 20000 in
theorem gX0_writeDown_X0_requireRoomForNight : GoodIn wsX0_writeDown (wsV RX0 70 RX0 yX0_requireRoomForNight wsX0_requireRoomForNight) := goodIn_app (goodIn_of _ (by decide +kernel)) ggX0_writeDown_X0_requireRoomForNight
set_option maxRecDepth 20000 in
theorem ggX0_writeDown_X0_countMisses : GoodIn wsX0_writeDown wsX0_countMisses := goodIn_r _ [26, 27, 28, 29, 8, 30, 58, 59, 60, 61, 62, 63, 64, 65, 66, 67] (by decide +kernel) (by decide +kernel)
set_option maxRecDepth 20000 in
theorem gX0_writeDown_X0_countMisses : GoodIn wsX0_writeDown (wsV RX0 73 RX0 yX0_countMisses wsX0_countMisses) := goodIn_app (goodIn_of _ (by decide +kernel)) ggX0_writeDown_X0_countMisses
set_option maxRecDepth 20000 in
theorem ggX0_writeDown_X0_letAstronomersSee : GoodIn wsX0_writeDown wsX0_letAstronomersSee := goodIn_r _ [34, 35, 36, 37, 38, 39, 40, 8, 41, 12, 13, 14, 15, 16, 42, 43, 44, 45, 27, 46, 47, 48, 49, 50, 51, 52, 28, 29, 30, 53, 54, 55, 56, 57, 58, 59, 60, 61, 62, 63, 64, 65, 66, 67] (by decide +kernel) (by decide +kernel)
set_option maxRecDepth 20000 in
theorem gX0_writeDown_X0_letAstronomersSee : GoodIn wsX0_writeDown (wsV RX0 77 RX0 yX0_letAstronomersSee wsX0_letAstronomersSee) := goodIn_app (goodIn_of _ (by decide +kernel)) ggX0_writeDown_X0_letAstronomersSee
theorem dX0_writeDown_0 : decode cX0_writeDown 0 = .ok (.aload_n 0, 1) := by decide +kernel
theorem dX0_writeDown_1 : decode cX0_writeDown 1 = .ok (.iload_n 1, 1) := by decide +kernel
theorem dX0_writeDown_2 : decode cX0_writeDown 2 = .ok (.invokevirtual 67, 3) := by decide +kernel
theorem dX0_writeDown_5 : decode cX0_writeDown 5 = .ok (.aload_n 0, 1) := by decide +kernel
theorem dX0_writeDown_6 : decode cX0_writeDown 6 = .ok (.invokevirtual 70, 3) := by decide +kernel
theorem dX0_writeDown_9 : decode cX0_writeDown 9 = .ok (.aload_n 0, 1) := by decide +kernel
theorem dX0_writeDown_10 : decode cX0_writeDown 10 = .ok (.getfield 16, 3) := by decide +kernel
theorem dX0_writeDown_13 : decode cX0_writeDown 13 = .ok (.aload_n 0, 1) := by decide +kernel
theorem dX0_writeDown_14 : decode cX0_writeDown 14 = .ok (.getfield 13, 3) := by decide +kernel
theorem dX0_writeDown_17 : decode cX0_writeDown 17 = .ok (.iload_n 1, 1) := by decide +kernel
theorem dX0_writeDown_18 : decode cX0_writeDown 18 = .ok (.iastore, 1) := by decide +kernel
theorem dX0_writeDown_19 : decode cX0_writeDown 19 = .ok (.aload_n 0, 1) := by decide +kernel
theorem dX0_writeDown_20 : decode cX0_writeDown 20 = .ok (.getfield 20, 3) := by decide +kernel
theorem dX0_writeDown_23 : decode cX0_writeDown 23 = .ok (.aload_n 0, 1) := by decide +kernel
theorem dX0_writeDown_24 : decode cX0_writeDown 24 = .ok (.getfield 13, 3) := by decide +kernel
theorem dX0_writeDown_27 : decode cX0_writeDown 27 = .ok (.iload_n 2, 1) := by decide +kernel
theorem dX0_writeDown_28 : decode cX0_writeDown 28 = .ok (.bastore, 1) := by decide +kernel
theorem dX0_writeDown_29 : decode cX0_writeDown 29 = .ok (.aload_n 0, 1) := by decide +kernel
theorem dX0_writeDown_30 : decode cX0_writeDown 30 = .ok (.dup, 1) := by decide +kernel
theorem dX0_writeDown_31 : decode cX0_writeDown 31 = .ok (.getfield 13, 3) := by decide +kernel
theorem dX0_writeDown_34 : decode cX0_writeDown 34 = .ok (.iconst 1, 1) := by decide +kernel
theorem dX0_writeDown_35 : decode cX0_writeDown 35 = .ok (.iadd, 1) := by decide +kernel
theorem dX0_writeDown_36 : decode cX0_writeDown 36 = .ok (.putfield 13, 3) := by decide +kernel
theorem dX0_writeDown_39 : decode cX0_writeDown 39 = .ok (.aload_n 0, 1) := by decide +kernel
theorem dX0_writeDown_40 : decode cX0_writeDown 40 = .ok (.iload_n 1, 1) := by decide +kernel
theorem dX0_writeDown_41 : decode cX0_writeDown 41 = .ok (.iload_n 2, 1) := by decide +kernel
theorem dX0_writeDown_42 : decode cX0_writeDown 42 = .ok (.iconst 1, 1) := by decide +kernel
theorem dX0_writeDown_43 : decode cX0_writeDown 43 = .ok (.invokevirtual 73, 3) := by decide +kernel
theorem dX0_writeDown_46 : decode cX0_writeDown 46 = .ok (.aload_n 0, 1) := by decide +kernel
theorem dX0_writeDown_47 : decode cX0_writeDown 47 = .ok (.iload_n 1, 1) := by decide +kernel
theorem dX0_writeDown_48 : decode cX0_writeDown 48 = .ok (.iload_n 2, 1) := by decide +kernel
theorem dX0_writeDown_49 : decode cX0_writeDown 49 = .ok (.invokevirtual 77, 3) := by decide +kernel
theorem dX0_writeDown_52 : decode cX0_writeDown 52 = .ok (.istore_n 3, 1) := by decide +kernel
theorem dX0_writeDown_53 : decode cX0_writeDown 53 = .ok (.aload_n 0, 1) := by decide +kernel
theorem dX0_writeDown_54 : decode cX0_writeDown 54 = .ok (.dup, 1) := by decide +kernel
theorem dX0_writeDown_55 : decode cX0_writeDown 55 = .ok (.getfield 39, 3) := by decide +kernel
theorem dX0_writeDown_58 : decode cX0_writeDown 58 = .ok (.iload_n 3, 1) := by decide +kernel
theorem dX0_writeDown_59 : decode cX0_writeDown 59 = .ok (.iadd, 1) := by decide +kernel
theorem dX0_writeDown_60 : decode cX0_writeDown 60 = .ok (.putfield 39, 3) := by decide +kernel
theorem dX0_writeDown_63 : decode cX0_writeDown 63 = .ok (.iload_n 3, 1) := by decide +kernel
theorem dX0_writeDown_64 : decode cX0_writeDown 64 = .ok (.ireturn, 1) := by decide +kernel
set_option maxRecDepth 20000 in
theorem ggX0_strike_X0_requireNight : GoodIn wsX0_strike wsX0_requireNight := goodIn_ca (goodIn_r _ [8, 9, 10, 3, 19, 20, 21, 22, 23, 24, 25, 26, 27, 28] (by decide +kernel) (by decide +kernel)) (goodIn_sub (fun _ h => List.mem_cons_of_mem _ (List.mem_append_right _ h)) (by decide +kernel))
set_option maxRecDepth 20000 in
theorem gX0_strike_X0_requireNight : GoodIn wsX0_strike (wsV RX0 81 RX0 yX0_requireNight wsX0_requireNight) := goodIn_app (goodIn_of _ (by decide +kernel)) ggX0_strike_X0_requireNight
set_option maxRecDepth 20000 in
theorem ggX0_strike_X0_countMisses : GoodIn wsX0_strike wsX0_countMisses := goodIn_r _ [14, 15, 16, 17, 7, 18, 19, 20, 21, 22, 23, 24, 25, 26, 27, 28] (by decide +kernel) (by decide +kernel)
set_option maxRecDepth 20000 in
theorem gX0_strike_X0_countMisses : GoodIn wsX0_strike (wsV RX0 73 RX0 yX0_countMisses wsX0_countMisses) := goodIn_app (goodIn_of _ (by decide +kernel)) ggX0_strike_X0_countMisses
theorem dX0_strike_0 : decode cX0_strike 0 = .ok (.aload_n 0, 1) := by decide +kernel
theorem dX0_strike_1 : decode cX0_strike 1 = .ok (.iload_n 1, 1) := by decide +kernel
theorem dX0_strike_2 : decode cX0_strike 2 = .ok (.invokevirtual 81, 3) := by decide +kernel
theorem dX0_strike_5 : decode cX0_strike 5 = .ok (.aload_n 0, 1) := by decide +kernel
theorem dX0_strike_6 : decode cX0_strike 6 = .ok (.aload_n 0, 1) := by decide +kernel
theorem dX0_strike_7 : decode cX0_strike 7 = .ok (.getfield 16, 3) := by decide +kernel
theorem dX0_strike_10 : decode cX0_strike 10 = .ok (.iload_n 1, 1) := by decide +kernel
theorem dX0_strike_11 : decode cX0_strike 11 = .ok (.iaload, 1) := by decide +kernel
theorem dX0_strike_12 : decode cX0_strike 12 = .ok (.aload_n 0, 1) := by decide +kernel
theorem dX0_strike_13 : decode cX0_strike 13 = .ok (.getfield 20, 3) := by decide +kernel
theorem dX0_strike_16 : decode cX0_strike 16 = .ok (.iload_n 1, 1) := by decide +kernel
theorem dX0_strike_17 : decode cX0_strike 17 = .ok (.baload, 1) := by decide +kernel
theorem dX0_strike_18 : decode cX0_strike 18 = .ok (.iconst (-1), 1) := by decide +kernel
theorem dX0_strike_19 : decode cX0_strike 19 = .ok (.invokevirtual 73, 3) := by decide +kernel
theorem dX0_strike_22 : decode cX0_strike 22 = .ok (.iload_n 1, 1) := by decide +kernel
theorem dX0_strike_23 : decode cX0_strike 23 = .ok (.iconst 1, 1) := by decide +kernel
theorem dX0_strike_24 : decode cX0_strike 24 = .ok (.iadd, 1) := by decide +kernel
theorem dX0_strike_25 : decode cX0_strike 25 = .ok (.istore_n 2, 1) := by decide +kernel
theorem dX0_strike_26 : decode cX0_strike 26 = .ok (.iload_n 2, 1) := by decide +kernel
theorem dX0_strike_27 : decode cX0_strike 27 = .ok (.aload_n 0, 1) := by decide +kernel
theorem dX0_strike_28 : decode cX0_strike 28 = .ok (.getfield 13, 3) := by decide +kernel
theorem dX0_strike_31 : decode cX0_strike 31 = .ok (.if_icmp .ge 37, 3) := by decide +kernel
theorem dX0_strike_34 : decode cX0_strike 34 = .ok (.aload_n 0, 1) := by decide +kernel
theorem dX0_strike_35 : decode cX0_strike 35 = .ok (.getfield 16, 3) := by decide +kernel
theorem dX0_strike_38 : decode cX0_strike 38 = .ok (.iload_n 2, 1) := by decide +kernel
theorem dX0_strike_39 : decode cX0_strike 39 = .ok (.iconst 1, 1) := by decide +kernel
theorem dX0_strike_40 : decode cX0_strike 40 = .ok (.isub, 1) := by decide +kernel
theorem dX0_strike_41 : decode cX0_strike 41 = .ok (.aload_n 0, 1) := by decide +kernel
theorem dX0_strike_42 : decode cX0_strike 42 = .ok (.getfield 16, 3) := by decide +kernel
theorem dX0_strike_45 : decode cX0_strike 45 = .ok (.iload_n 2, 1) := by decide +kernel
theorem dX0_strike_46 : decode cX0_strike 46 = .ok (.iaload, 1) := by decide +kernel
theorem dX0_strike_47 : decode cX0_strike 47 = .ok (.iastore, 1) := by decide +kernel
theorem dX0_strike_48 : decode cX0_strike 48 = .ok (.aload_n 0, 1) := by decide +kernel
theorem dX0_strike_49 : decode cX0_strike 49 = .ok (.getfield 20, 3) := by decide +kernel
theorem dX0_strike_52 : decode cX0_strike 52 = .ok (.iload_n 2, 1) := by decide +kernel
theorem dX0_strike_53 : decode cX0_strike 53 = .ok (.iconst 1, 1) := by decide +kernel
theorem dX0_strike_54 : decode cX0_strike 54 = .ok (.isub, 1) := by decide +kernel
theorem dX0_strike_55 : decode cX0_strike 55 = .ok (.aload_n 0, 1) := by decide +kernel
theorem dX0_strike_56 : decode cX0_strike 56 = .ok (.getfield 20, 3) := by decide +kernel
theorem dX0_strike_59 : decode cX0_strike 59 = .ok (.iload_n 2, 1) := by decide +kernel
theorem dX0_strike_60 : decode cX0_strike 60 = .ok (.baload, 1) := by decide +kernel
theorem dX0_strike_61 : decode cX0_strike 61 = .ok (.bastore, 1) := by decide +kernel
theorem dX0_strike_62 : decode cX0_strike 62 = .ok (.iinc 2 1, 3) := by decide +kernel
theorem dX0_strike_65 : decode cX0_strike 65 = .ok (.goto (-39), 3) := by decide +kernel
theorem dX0_strike_68 : decode cX0_strike 68 = .ok (.aload_n 0, 1) := by decide +kernel
theorem dX0_strike_69 : decode cX0_strike 69 = .ok (.dup, 1) := by decide +kernel
theorem dX0_strike_70 : decode cX0_strike 70 = .ok (.getfield 13, 3) := by decide +kernel
theorem dX0_strike_73 : decode cX0_strike 73 = .ok (.iconst 1, 1) := by decide +kernel
theorem dX0_strike_74 : decode cX0_strike 74 = .ok (.isub, 1) := by decide +kernel
theorem dX0_strike_75 : decode cX0_strike 75 = .ok (.putfield 13, 3) := by decide +kernel
theorem dX0_strike_78 : decode cX0_strike 78 = .ok (.aload_n 0, 1) := by decide +kernel
theorem dX0_strike_79 : decode cX0_strike 79 = .ok (.getfield 13, 3) := by decide +kernel
theorem dX0_strike_82 : decode cX0_strike 82 = .ok (.ireturn, 1) := by decide +kernel
theorem dX0_things_0 : decode cX0_things 0 = .ok (.aload_n 0, 1) := by decide +kernel
theorem dX0_things_1 : decode cX0_things 1 = .ok (.getfield 9, 3) := by decide +kernel
theorem dX0_things_4 : decode cX0_things 4 = .ok (.ireturn, 1) := by decide +kernel
set_option maxRecDepth 20000 in
theorem ggX0_nightsWith_X0_requireThing : GoodIn wsX0_nightsWith wsX0_requireThing := goodIn_ca (goodIn_r _ [7, 8, 9, 10, 17, 18, 19, 20, 21, 22, 23, 24, 25, 26] (by decide +kernel) (by decide +kernel)) (goodIn_sub (fun _ h => List.mem_cons_of_mem _ (List.mem_append_right _ h)) (by decide +kernel))
set_option maxRecDepth 20000 in
theorem gX0_nightsWith_X0_requireThing : GoodIn wsX0_nightsWith (wsV RX0 84 RX0 yX0_requireThing wsX0_requireThing) := goodIn_app (goodIn_of _ (by decide +kernel)) ggX0_nightsWith_X0_requireThing
set_option maxRecDepth 20000 in
theorem ggX0_nightsWith_X0_holds : GoodIn wsX0_nightsWith wsX0_holds := goodIn_r _ [13, 14, 15, 6, 16] (by decide +kernel) (by decide +kernel)
set_option maxRecDepth 20000 in
theorem gX0_nightsWith_X0_holds : GoodIn wsX0_nightsWith (va_wsS RX0 87 yX0_holds wsX0_holds) := goodIn_app (goodIn_of _ (by decide +kernel)) ggX0_nightsWith_X0_holds
theorem dX0_nightsWith_0 : decode cX0_nightsWith 0 = .ok (.aload_n 0, 1) := by decide +kernel
theorem dX0_nightsWith_1 : decode cX0_nightsWith 1 = .ok (.iload_n 1, 1) := by decide +kernel
theorem dX0_nightsWith_2 : decode cX0_nightsWith 2 = .ok (.invokevirtual 84, 3) := by decide +kernel
theorem dX0_nightsWith_5 : decode cX0_nightsWith 5 = .ok (.iconst 0, 1) := by decide +kernel
theorem dX0_nightsWith_6 : decode cX0_nightsWith 6 = .ok (.istore_n 2, 1) := by decide +kernel
theorem dX0_nightsWith_7 : decode cX0_nightsWith 7 = .ok (.iconst 0, 1) := by decide +kernel
theorem dX0_nightsWith_8 : decode cX0_nightsWith 8 = .ok (.istore_n 3, 1) := by decide +kernel
theorem dX0_nightsWith_9 : decode cX0_nightsWith 9 = .ok (.iload_n 3, 1) := by decide +kernel
theorem dX0_nightsWith_10 : decode cX0_nightsWith 10 = .ok (.aload_n 0, 1) := by decide +kernel
theorem dX0_nightsWith_11 : decode cX0_nightsWith 11 = .ok (.getfield 13, 3) := by decide +kernel
theorem dX0_nightsWith_14 : decode cX0_nightsWith 14 = .ok (.if_icmp .ge 25, 3) := by decide +kernel
theorem dX0_nightsWith_17 : decode cX0_nightsWith 17 = .ok (.aload_n 0, 1) := by decide +kernel
theorem dX0_nightsWith_18 : decode cX0_nightsWith 18 = .ok (.getfield 16, 3) := by decide +kernel
theorem dX0_nightsWith_21 : decode cX0_nightsWith 21 = .ok (.iload_n 3, 1) := by decide +kernel
theorem dX0_nightsWith_22 : decode cX0_nightsWith 22 = .ok (.iaload, 1) := by decide +kernel
theorem dX0_nightsWith_23 : decode cX0_nightsWith 23 = .ok (.iload_n 1, 1) := by decide +kernel
theorem dX0_nightsWith_24 : decode cX0_nightsWith 24 = .ok (.invokestatic 87, 3) := by decide +kernel
theorem dX0_nightsWith_27 : decode cX0_nightsWith 27 = .ok (.ifCond .eq 6, 3) := by decide +kernel
theorem dX0_nightsWith_30 : decode cX0_nightsWith 30 = .ok (.iinc 2 1, 3) := by decide +kernel
theorem dX0_nightsWith_33 : decode cX0_nightsWith 33 = .ok (.iinc 3 1, 3) := by decide +kernel
theorem dX0_nightsWith_36 : decode cX0_nightsWith 36 = .ok (.goto (-27), 3) := by decide +kernel
theorem dX0_nightsWith_39 : decode cX0_nightsWith 39 = .ok (.iload_n 2, 1) := by decide +kernel
theorem dX0_nightsWith_40 : decode cX0_nightsWith 40 = .ok (.ireturn, 1) := by decide +kernel
set_option maxRecDepth 20000 in
theorem ggX0_smudgesWith_X0_requireThing : GoodIn wsX0_smudgesWith wsX0_requireThing := goodIn_ca (goodIn_r _ [8, 9, 10, 11, 18, 19, 20, 21, 22, 23, 24, 25, 26, 27] (by decide +kernel) (by decide +kernel)) (goodIn_sub (fun _ h => List.mem_cons_of_mem _ (List.mem_append_right _ h)) (by decide +kernel))
set_option maxRecDepth 20000 in
theorem gX0_smudgesWith_X0_requireThing : GoodIn wsX0_smudgesWith (wsV RX0 84 RX0 yX0_requireThing wsX0_requireThing) := goodIn_app (goodIn_of _ (by decide +kernel)) ggX0_smudgesWith_X0_requireThing
set_option maxRecDepth 20000 in
theorem ggX0_smudgesWith_X0_holds : GoodIn wsX0_smudgesWith wsX0_holds := goodIn_r _ [14, 15, 16, 7, 17] (by decide +kernel) (by decide +kernel)
set_option maxRecDepth 20000 in
theorem gX0_smudgesWith_X0_holds : GoodIn wsX0_smudgesWith (va_wsS RX0 87 yX0_holds wsX0_holds) := goodIn_app (goodIn_of _ (by decide +kernel)) ggX0_smudgesWith_X0_holds
theorem dX0_smudgesWith_0 : decode cX0_smudgesWith 0 = .ok (.aload_n 0, 1) := by decide +kernel
theorem dX0_smudgesWith_1 : decode cX0_smudgesWith 1 = .ok (.iload_n 1, 1) := by decide +kernel
theorem dX0_smudgesWith_2 : decode cX0_smudgesWith 2 = .ok (.invokevirtual 84, 3) := by decide +kernel
theorem dX0_smudgesWith_5 : decode cX0_smudgesWith 5 = .ok (.iconst 0, 1) := by decide +kernel
theorem dX0_smudgesWith_6 : decode cX0_smudgesWith 6 = .ok (.istore_n 2, 1) := by decide +kernel
theorem dX0_smudgesWith_7 : decode cX0_smudgesWith 7 = .ok (.iconst 0, 1) := by decide +kernel
theorem dX0_smudgesWith_8 : decode cX0_smudgesWith 8 = .ok (.istore_n 3, 1) := by decide +kernel
theorem dX0_smudgesWith_9 : decode cX0_smudgesWith 9 = .ok (.iload_n 3, 1) := by decide +kernel
theorem dX0_smudgesWith_10 : decode cX0_smudgesWith 10 = .ok (.aload_n 0, 1) := by decide +kernel
theorem dX0_smudgesWith_11 : decode cX0_smudgesWith 11 = .ok (.getfield 13, 3) := by decide +kernel
theorem dX0_smudgesWith_14 : decode cX0_smudgesWith 14 = .ok (.if_icmp .ge 34, 3) := by decide +kernel
theorem dX0_smudgesWith_17 : decode cX0_smudgesWith 17 = .ok (.aload_n 0, 1) := by decide +kernel
theorem dX0_smudgesWith_18 : decode cX0_smudgesWith 18 = .ok (.getfield 20, 3) := by decide +kernel
theorem dX0_smudgesWith_21 : decode cX0_smudgesWith 21 = .ok (.iload_n 3, 1) := by decide +kernel
theorem dX0_smudgesWith_22 : decode cX0_smudgesWith 22 = .ok (.baload, 1) := by decide +kernel
theorem dX0_smudgesWith_23 : decode cX0_smudgesWith 23 = .ok (.ifCond .eq 19, 3) := by decide +kernel
theorem dX0_smudgesWith_26 : decode cX0_smudgesWith 26 = .ok (.aload_n 0, 1) := by decide +kernel
theorem dX0_smudgesWith_27 : decode cX0_smudgesWith 27 = .ok (.getfield 16, 3) := by decide +kernel
theorem dX0_smudgesWith_30 : decode cX0_smudgesWith 30 = .ok (.iload_n 3, 1) := by decide +kernel
theorem dX0_smudgesWith_31 : decode cX0_smudgesWith 31 = .ok (.iaload, 1) := by decide +kernel
theorem dX0_smudgesWith_32 : decode cX0_smudgesWith 32 = .ok (.iload_n 1, 1) := by decide +kernel
theorem dX0_smudgesWith_33 : decode cX0_smudgesWith 33 = .ok (.invokestatic 87, 3) := by decide +kernel
theorem dX0_smudgesWith_36 : decode cX0_smudgesWith 36 = .ok (.ifCond .eq 6, 3) := by decide +kernel
theorem dX0_smudgesWith_39 : decode cX0_smudgesWith 39 = .ok (.iinc 2 1, 3) := by decide +kernel
theorem dX0_smudgesWith_42 : decode cX0_smudgesWith 42 = .ok (.iinc 3 1, 3) := by decide +kernel
theorem dX0_smudgesWith_45 : decode cX0_smudgesWith 45 = .ok (.goto (-36), 3) := by decide +kernel
theorem dX0_smudgesWith_48 : decode cX0_smudgesWith 48 = .ok (.iload_n 2, 1) := by decide +kernel
theorem dX0_smudgesWith_49 : decode cX0_smudgesWith 49 = .ok (.ireturn, 1) := by decide +kernel
set_option maxRecDepth 20000 in
theorem ggX0_isCleared_X0_requireThing : GoodIn wsX0_isCleared wsX0_requireThing := goodIn_ca (goodIn_r _ [5, 6, 7, 8, 22, 23, 24, 25, 26, 27, 28, 29, 30, 31] (by decide +kernel) (by decide +kernel)) (goodIn_sub (fun _ h => List.mem_cons_of_mem _ (List.mem_append_right _ h)) (by decide +kernel))
set_option maxRecDepth 20000 in
theorem gX0_isCleared_X0_requireThing : GoodIn wsX0_isCleared (wsV RX0 84 RX0 yX0_requireThing wsX0_requireThing) := goodIn_app (goodIn_of _ (by decide +kernel)) ggX0_isCleared_X0_requireThing
set_option maxRecDepth 20000 in
theorem ggX0_isCleared_X0_clearedThings : GoodIn wsX0_isCleared wsX0_clearedThings := goodIn_r _ [12, 13, 14, 15, 22, 23, 24, 25, 26, 27, 28, 29, 30, 31] (by decide +kernel) (by decide +kernel)
set_option maxRecDepth 20000 in
theorem gX0_isCleared_X0_clearedThings : GoodIn wsX0_isCleared (wsV RX0 91 RX0 yX0_clearedThings wsX0_clearedThings) := goodIn_app (goodIn_of _ (by decide +kernel)) ggX0_isCleared_X0_clearedThings
set_option maxRecDepth 20000 in
theorem ggX0_isCleared_X0_holds : GoodIn wsX0_isCleared wsX0_holds := goodIn_r _ [18, 19, 20, 4, 21] (by decide +kernel) (by decide +kernel)
set_option maxRecDepth 20000 in
theorem gX0_isCleared_X0_holds : GoodIn wsX0_isCleared (va_wsS RX0 87 yX0_holds wsX0_holds) := goodIn_app (goodIn_of _ (by decide +kernel)) ggX0_isCleared_X0_holds
theorem dX0_isCleared_0 : decode cX0_isCleared 0 = .ok (.aload_n 0, 1) := by decide +kernel
theorem dX0_isCleared_1 : decode cX0_isCleared 1 = .ok (.iload_n 1, 1) := by decide +kernel
theorem dX0_isCleared_2 : decode cX0_isCleared 2 = .ok (.invokevirtual 84, 3) := by decide +kernel
theorem dX0_isCleared_5 : decode cX0_isCleared 5 = .ok (.aload_n 0, 1) := by decide +kernel
theorem dX0_isCleared_6 : decode cX0_isCleared 6 = .ok (.invokevirtual 91, 3) := by decide +kernel
theorem dX0_isCleared_9 : decode cX0_isCleared 9 = .ok (.iload_n 1, 1) := by decide +kernel
theorem dX0_isCleared_10 : decode cX0_isCleared 10 = .ok (.invokestatic 87, 3) := by decide +kernel
theorem dX0_isCleared_13 : decode cX0_isCleared 13 = .ok (.ireturn, 1) := by decide +kernel
set_option maxRecDepth 20000 in
theorem ggX0_isProved_X0_requireThing : GoodIn wsX0_isProved wsX0_requireThing := goodIn_ca (goodIn_r _ [8, 9, 10, 11, 22, 23, 24, 25, 26, 27, 28, 29, 30, 31] (by decide +kernel) (by decide +kernel)) (goodIn_sub (fun _ h => List.mem_cons_of_mem _ (List.mem_append_right _ h)) (by decide +kernel))
set_option maxRecDepth 20000 in
theorem gX0_isProved_X0_requireThing : GoodIn wsX0_isProved (wsV RX0 84 RX0 yX0_requireThing wsX0_requireThing) := goodIn_app (goodIn_of _ (by decide +kernel)) ggX0_isProved_X0_requireThing
set_option maxRecDepth 20000 in
theorem ggX0_isProved_X0_clearedThings : GoodIn wsX0_isProved wsX0_clearedThings := goodIn_r _ [15, 1, 3, 2, 22, 23, 24, 25, 26, 27, 28, 29, 30, 31] (by decide +kernel) (by decide +kernel)
set_option maxRecDepth 20000 in
theorem gX0_isProved_X0_clearedThings : GoodIn wsX0_isProved (wsV RX0 91 RX0 yX0_clearedThings wsX0_clearedThings) := goodIn_app (goodIn_of _ (by decide +kernel)) ggX0_isProved_X0_clearedThings
set_option maxRecDepth 20000 in
theorem ggX0_isProved_X0_setOf : GoodIn wsX0_isProved wsX0_setOf := goodIn_r _ [18] (by decide +kernel) (by decide +kernel)
set_option maxRecDepth 20000 in
theorem gX0_isProved_X0_setOf : GoodIn wsX0_isProved (va_wsS RX0 95 yX0_setOf wsX0_setOf) := goodIn_app (goodIn_of _ (by decide +kernel)) ggX0_isProved_X0_setOf
set_option maxRecDepth 20000 in
theorem ggX0_isProved_X0_holds : GoodIn wsX0_isProved wsX0_holds := goodIn_r _ [21, 16, 17, 7, 18] (by decide +kernel) (by decide +kernel)
set_option maxRecDepth 20000 in
theorem gX0_isProved_X0_holds : GoodIn wsX0_isProved (va_wsS RX0 87 yX0_holds wsX0_holds) := goodIn_app (goodIn_of _ (by decide +kernel)) ggX0_isProved_X0_holds
theorem dX0_isProved_0 : decode cX0_isProved 0 = .ok (.aload_n 0, 1) := by decide +kernel
theorem dX0_isProved_1 : decode cX0_isProved 1 = .ok (.iload_n 1, 1) := by decide +kernel
theorem dX0_isProved_2 : decode cX0_isProved 2 = .ok (.invokevirtual 84, 3) := by decide +kernel
theorem dX0_isProved_5 : decode cX0_isProved 5 = .ok (.aload_n 0, 1) := by decide +kernel
theorem dX0_isProved_6 : decode cX0_isProved 6 = .ok (.invokevirtual 91, 3) := by decide +kernel
theorem dX0_isProved_9 : decode cX0_isProved 9 = .ok (.iload_n 1, 1) := by decide +kernel
theorem dX0_isProved_10 : decode cX0_isProved 10 = .ok (.invokestatic 95, 3) := by decide +kernel
theorem dX0_isProved_13 : decode cX0_isProved 13 = .ok (.ior, 1) := by decide +kernel
theorem dX0_isProved_14 : decode cX0_isProved 14 = .ok (.istore_n 2, 1) := by decide +kernel
theorem dX0_isProved_15 : decode cX0_isProved 15 = .ok (.iconst 0, 1) := by decide +kernel
theorem dX0_isProved_16 : decode cX0_isProved 16 = .ok (.istore_n 3, 1) := by decide +kernel
theorem dX0_isProved_17 : decode cX0_isProved 17 = .ok (.iload_n 3, 1) := by decide +kernel
theorem dX0_isProved_18 : decode cX0_isProved 18 = .ok (.aload_n 0, 1) := by decide +kernel
theorem dX0_isProved_19 : decode cX0_isProved 19 = .ok (.getfield 13, 3) := by decide +kernel
theorem dX0_isProved_22 : decode cX0_isProved 22 = .ok (.if_icmp .ge 46, 3) := by decide +kernel
theorem dX0_isProved_25 : decode cX0_isProved 25 = .ok (.aload_n 0, 1) := by decide +kernel
theorem dX0_isProved_26 : decode cX0_isProved 26 = .ok (.getfield 16, 3) := by decide +kernel
theorem dX0_isProved_29 : decode cX0_isProved 29 = .ok (.iload_n 3, 1) := by decide +kernel
theorem dX0_isProved_30 : decode cX0_isProved 30 = .ok (.iaload, 1) := by decide +kernel
theorem dX0_isProved_31 : decode cX0_isProved 31 = .ok (.istore 4, 2) := by decide +kernel
theorem dX0_isProved_33 : decode cX0_isProved 33 = .ok (.aload_n 0, 1) := by decide +kernel
theorem dX0_isProved_34 : decode cX0_isProved 34 = .ok (.getfield 20, 3) := by decide +kernel
theorem dX0_isProved_37 : decode cX0_isProved 37 = .ok (.iload_n 3, 1) := by decide +kernel
theorem dX0_isProved_38 : decode cX0_isProved 38 = .ok (.baload, 1) := by decide +kernel
theorem dX0_isProved_39 : decode cX0_isProved 39 = .ok (.ifCond .eq 23, 3) := by decide +kernel
theorem dX0_isProved_42 : decode cX0_isProved 42 = .ok (.iload 4, 2) := by decide +kernel
theorem dX0_isProved_44 : decode cX0_isProved 44 = .ok (.iload_n 1, 1) := by decide +kernel
theorem dX0_isProved_45 : decode cX0_isProved 45 = .ok (.invokestatic 87, 3) := by decide +kernel
theorem dX0_isProved_48 : decode cX0_isProved 48 = .ok (.ifCond .eq 14, 3) := by decide +kernel
theorem dX0_isProved_51 : decode cX0_isProved 51 = .ok (.iload 4, 2) := by decide +kernel
theorem dX0_isProved_53 : decode cX0_isProved 53 = .ok (.iload_n 2, 1) := by decide +kernel
theorem dX0_isProved_54 : decode cX0_isProved 54 = .ok (.iconst (-1), 1) := by decide +kernel
theorem dX0_isProved_55 : decode cX0_isProved 55 = .ok (.ixor, 1) := by decide +kernel
theorem dX0_isProved_56 : decode cX0_isProved 56 = .ok (.iand, 1) := by decide +kernel
theorem dX0_isProved_57 : decode cX0_isProved 57 = .ok (.ifCond .ne 5, 3) := by decide +kernel
theorem dX0_isProved_60 : decode cX0_isProved 60 = .ok (.iconst 1, 1) := by decide +kernel
theorem dX0_isProved_61 : decode cX0_isProved 61 = .ok (.ireturn, 1) := by decide +kernel
theorem dX0_isProved_62 : decode cX0_isProved 62 = .ok (.iinc 3 1, 3) := by decide +kernel
theorem dX0_isProved_65 : decode cX0_isProved 65 = .ok (.goto (-48), 3) := by decide +kernel
theorem dX0_isProved_68 : decode cX0_isProved 68 = .ok (.iconst 0, 1) := by decide +kernel
theorem dX0_isProved_69 : decode cX0_isProved 69 = .ok (.ireturn, 1) := by decide +kernel
set_option maxRecDepth 20000 in
theorem ggX0_setsWith_X0_requireThing : GoodIn wsX0_setsWith wsX0_requireThing := goodIn_ca (goodIn_r _ [5, 6, 7, 8, 25, 26, 27, 28, 29, 30, 31, 32, 33, 34] (by decide +kernel) (by decide +kernel)) (goodIn_sub (fun _ h => List.mem_cons_of_mem _ (List.mem_append_right _ h)) (by decide +kernel))
set_option maxRecDepth 20000 in
theorem gX0_setsWith_X0_requireThing : GoodIn wsX0_setsWith (wsV RX0 84 RX0 yX0_requireThing wsX0_requireThing) := goodIn_app (goodIn_of _ (by decide +kernel)) ggX0_setsWith_X0_requireThing
set_option maxRecDepth 20000 in
theorem ggX0_setsWith_X0_setOf : GoodIn wsX0_setsWith wsX0_setOf := goodIn_r _ [11] (by decide +kernel) (by decide +kernel)
set_option maxRecDepth 20000 in
theorem gX0_setsWith_X0_setOf : GoodIn wsX0_setsWith (va_wsS RX0 95 yX0_setOf wsX0_setOf) := goodIn_app (goodIn_of _ (by decide +kernel)) ggX0_setsWith_X0_setOf
set_option maxRecDepth 20000 in
theorem ggX0_setsWith_X0_explanationsMeeting : GoodIn wsX0_setsWith wsX0_explanationsMeeting := goodIn_r _ [15, 16, 17, 18, 4, 19, 8, 20, 21, 22, 23, 24, 25, 26, 27, 28, 29, 30, 31, 32, 33, 34] (by decide +kernel) (by decide +kernel)
set_option maxRecDepth 20000 in
theorem gX0_setsWith_X0_explanationsMeeting : GoodIn wsX0_setsWith (wsV RX0 99 RX0 yX0_explanationsMeeting wsX0_explanationsMeeting) := goodIn_app (goodIn_of _ (by decide +kernel)) ggX0_setsWith_X0_explanationsMeeting
theorem dX0_setsWith_0 : decode cX0_setsWith 0 = .ok (.aload_n 0, 1) := by decide +kernel
theorem dX0_setsWith_1 : decode cX0_setsWith 1 = .ok (.iload_n 1, 1) := by decide +kernel
theorem dX0_setsWith_2 : decode cX0_setsWith 2 = .ok (.invokevirtual 84, 3) := by decide +kernel
theorem dX0_setsWith_5 : decode cX0_setsWith 5 = .ok (.aload_n 0, 1) := by decide +kernel
theorem dX0_setsWith_6 : decode cX0_setsWith 6 = .ok (.iload_n 1, 1) := by decide +kernel
theorem dX0_setsWith_7 : decode cX0_setsWith 7 = .ok (.invokestatic 95, 3) := by decide +kernel
theorem dX0_setsWith_10 : decode cX0_setsWith 10 = .ok (.invokevirtual 99, 3) := by decide +kernel
theorem dX0_setsWith_13 : decode cX0_setsWith 13 = .ok (.ireturn, 1) := by decide +kernel
theorem dX0_nights_0 : decode cX0_nights 0 = .ok (.aload_n 0, 1) := by decide +kernel
theorem dX0_nights_1 : decode cX0_nights 1 = .ok (.getfield 13, 3) := by decide +kernel
theorem dX0_nights_4 : decode cX0_nights 4 = .ok (.ireturn, 1) := by decide +kernel
theorem dX0_smudges_0 : decode cX0_smudges 0 = .ok (.iconst 0, 1) := by decide +kernel
theorem dX0_smudges_1 : decode cX0_smudges 1 = .ok (.istore_n 1, 1) := by decide +kernel
theorem dX0_smudges_2 : decode cX0_smudges 2 = .ok (.iconst 0, 1) := by decide +kernel
theorem dX0_smudges_3 : decode cX0_smudges 3 = .ok (.istore_n 2, 1) := by decide +kernel
theorem dX0_smudges_4 : decode cX0_smudges 4 = .ok (.iload_n 2, 1) := by decide +kernel
theorem dX0_smudges_5 : decode cX0_smudges 5 = .ok (.aload_n 0, 1) := by decide +kernel
theorem dX0_smudges_6 : decode cX0_smudges 6 = .ok (.getfield 13, 3) := by decide +kernel
theorem dX0_smudges_9 : decode cX0_smudges 9 = .ok (.if_icmp .ge 21, 3) := by decide +kernel
theorem dX0_smudges_12 : decode cX0_smudges 12 = .ok (.aload_n 0, 1) := by decide +kernel
theorem dX0_smudges_13 : decode cX0_smudges 13 = .ok (.getfield 20, 3) := by decide +kernel
theorem dX0_smudges_16 : decode cX0_smudges 16 = .ok (.iload_n 2, 1) := by decide +kernel
theorem dX0_smudges_17 : decode cX0_smudges 17 = .ok (.baload, 1) := by decide +kernel
theorem dX0_smudges_18 : decode cX0_smudges 18 = .ok (.ifCond .eq 6, 3) := by decide +kernel
theorem dX0_smudges_21 : decode cX0_smudges 21 = .ok (.iinc 1 1, 3) := by decide +kernel
theorem dX0_smudges_24 : decode cX0_smudges 24 = .ok (.iinc 2 1, 3) := by decide +kernel
theorem dX0_smudges_27 : decode cX0_smudges 27 = .ok (.goto (-23), 3) := by decide +kernel
theorem dX0_smudges_30 : decode cX0_smudges 30 = .ok (.iload_n 1, 1) := by decide +kernel
theorem dX0_smudges_31 : decode cX0_smudges 31 = .ok (.ireturn, 1) := by decide +kernel
set_option maxRecDepth 20000 in
theorem ggX0_usedIn_X0_requireNight : GoodIn wsX0_usedIn wsX0_requireNight := goodIn_ca (goodIn_r _ [6, 7, 8, 9, 10, 11, 12, 13, 14, 15, 16, 17, 18, 19] (by decide +kernel) (by decide +kernel)) (goodIn_sub (fun _ h => List.mem_cons_of_mem _ (List.mem_append_right _ h)) (by decide +kernel))
set_option maxRecDepth 20000 in
theorem gX0_usedIn_X0_requireNight : GoodIn wsX0_usedIn (wsV RX0 81 RX0 yX0_requireNight wsX0_requireNight) := goodIn_app (goodIn_of _ (by decide +kernel)) ggX0_usedIn_X0_requireNight
theorem dX0_usedIn_0 : decode cX0_usedIn 0 = .ok (.aload_n 0, 1) := by decide +kernel
theorem dX0_usedIn_1 : decode cX0_usedIn 1 = .ok (.iload_n 1, 1) := by decide +kernel
theorem dX0_usedIn_2 : decode cX0_usedIn 2 = .ok (.invokevirtual 81, 3) := by decide +kernel
theorem dX0_usedIn_5 : decode cX0_usedIn 5 = .ok (.aload_n 0, 1) := by decide +kernel
theorem dX0_usedIn_6 : decode cX0_usedIn 6 = .ok (.getfield 16, 3) := by decide +kernel
theorem dX0_usedIn_9 : decode cX0_usedIn 9 = .ok (.iload_n 1, 1) := by decide +kernel
theorem dX0_usedIn_10 : decode cX0_usedIn 10 = .ok (.iaload, 1) := by decide +kernel
theorem dX0_usedIn_11 : decode cX0_usedIn 11 = .ok (.ireturn, 1) := by decide +kernel
set_option maxRecDepth 20000 in
theorem ggX0_isSmudged_X0_requireNight : GoodIn wsX0_isSmudged wsX0_requireNight := goodIn_ca (goodIn_r _ [6, 7, 8, 9, 10, 11, 12, 13, 14, 15, 16, 17, 18, 19] (by decide +kernel) (by decide +kernel)) (goodIn_sub (fun _ h => List.mem_cons_of_mem _ (List.mem_append_right _ h)) (by decide +kernel))
set_option maxRecDepth 20000 in
theorem gX0_isSmudged_X0_requireNight : GoodIn wsX0_isSmudged (wsV RX0 81 RX0 yX0_requireNight wsX0_requireNight) := goodIn_app (goodIn_of _ (by decide +kernel)) ggX0_isSmudged_X0_requireNight
theorem dX0_isSmudged_0 : decode cX0_isSmudged 0 = .ok (.aload_n 0, 1) := by decide +kernel
theorem dX0_isSmudged_1 : decode cX0_isSmudged 1 = .ok (.iload_n 1, 1) := by decide +kernel
theorem dX0_isSmudged_2 : decode cX0_isSmudged 2 = .ok (.invokevirtual 81, 3) := by decide +kernel
theorem dX0_isSmudged_5 : decode cX0_isSmudged 5 = .ok (.aload_n 0, 1) := by decide +kernel
theorem dX0_isSmudged_6 : decode cX0_isSmudged 6 = .ok (.getfield 20, 3) := by decide +kernel
theorem dX0_isSmudged_9 : decode cX0_isSmudged 9 = .ok (.iload_n 1, 1) := by decide +kernel
theorem dX0_isSmudged_10 : decode cX0_isSmudged 10 = .ok (.baload, 1) := by decide +kernel
theorem dX0_isSmudged_11 : decode cX0_isSmudged 11 = .ok (.ireturn, 1) := by decide +kernel
set_option maxRecDepth 20000 in
theorem ggX0_agree_X0_nightsToDoubt : GoodIn wsX0_agree wsX0_nightsToDoubt := goodIn_r _ [5, 6, 7, 8, 9, 10, 11, 12, 13, 4, 14, 15, 16, 17, 18, 19, 20, 21, 22, 23, 24, 25, 26, 27, 28, 29, 30] (by decide +kernel) (by decide +kernel)
set_option maxRecDepth 20000 in
theorem gX0_agree_X0_nightsToDoubt : GoodIn wsX0_agree (wsV RX0 102 RX0 yX0_nightsToDoubt wsX0_nightsToDoubt) := goodIn_app (goodIn_of _ (by decide +kernel)) ggX0_agree_X0_nightsToDoubt
theorem dX0_agree_0 : decode cX0_agree 0 = .ok (.aload_n 0, 1) := by decide +kernel
theorem dX0_agree_1 : decode cX0_agree 1 = .ok (.invokevirtual 102, 3) := by decide +kernel
theorem dX0_agree_4 : decode cX0_agree 4 = .ok (.ifCond .ne 7, 3) := by decide +kernel
theorem dX0_agree_7 : decode cX0_agree 7 = .ok (.iconst 1, 1) := by decide +kernel
theorem dX0_agree_8 : decode cX0_agree 8 = .ok (.goto 4, 3) := by decide +kernel
theorem dX0_agree_11 : decode cX0_agree 11 = .ok (.iconst 0, 1) := by decide +kernel
theorem dX0_agree_12 : decode cX0_agree 12 = .ok (.ireturn, 1) := by decide +kernel
theorem dX0_astronomers_0 : decode cX0_astronomers 0 = .ok (.aload_n 0, 1) := by decide +kernel
theorem dX0_astronomers_1 : decode cX0_astronomers 1 = .ok (.getfield 27, 3) := by decide +kernel
theorem dX0_astronomers_4 : decode cX0_astronomers 4 = .ok (.ireturn, 1) := by decide +kernel
set_option maxRecDepth 20000 in
theorem ggX0_blamedBy_X0_requireAstronomer : GoodIn wsX0_blamedBy wsX0_requireAstronomer := goodIn_ca (goodIn_r _ [6, 7, 8, 9, 10, 11, 12, 13, 14, 15, 16, 17, 18, 19] (by decide +kernel) (by decide +kernel)) (goodIn_sub (fun _ h => List.mem_cons_of_mem _ (List.mem_append_right _ h)) (by decide +kernel))
set_option maxRecDepth 20000 in
theorem gX0_blamedBy_X0_requireAstronomer : GoodIn wsX0_blamedBy (wsV RX0 60 RX0 yX0_requireAstronomer wsX0_requireAstronomer) := goodIn_app (goodIn_of _ (by decide +kernel)) ggX0_blamedBy_X0_requireAstronomer
theorem dX0_blamedBy_0 : decode cX0_blamedBy 0 = .ok (.aload_n 0, 1) := by decide +kernel
theorem dX0_blamedBy_1 : decode cX0_blamedBy 1 = .ok (.iload_n 1, 1) := by decide +kernel
theorem dX0_blamedBy_2 : decode cX0_blamedBy 2 = .ok (.invokevirtual 60, 3) := by decide +kernel
theorem dX0_blamedBy_5 : decode cX0_blamedBy 5 = .ok (.aload_n 0, 1) := by decide +kernel
theorem dX0_blamedBy_6 : decode cX0_blamedBy 6 = .ok (.getfield 30, 3) := by decide +kernel
theorem dX0_blamedBy_9 : decode cX0_blamedBy 9 = .ok (.iload_n 1, 1) := by decide +kernel
theorem dX0_blamedBy_10 : decode cX0_blamedBy 10 = .ok (.iaload, 1) := by decide +kernel
theorem dX0_blamedBy_11 : decode cX0_blamedBy 11 = .ok (.ireturn, 1) := by decide +kernel
set_option maxRecDepth 20000 in
theorem ggX0_stubbornnessOf_X0_requireAstronomer : GoodIn wsX0_stubbornnessOf wsX0_requireAstronomer := goodIn_ca (goodIn_r _ [6, 7, 8, 9, 10, 11, 12, 13, 14, 15, 16, 17, 18, 19] (by decide +kernel) (by decide +kernel)) (goodIn_sub (fun _ h => List.mem_cons_of_mem _ (List.mem_append_right _ h)) (by decide +kernel))
set_option maxRecDepth 20000 in
theorem gX0_stubbornnessOf_X0_requireAstronomer : GoodIn wsX0_stubbornnessOf (wsV RX0 60 RX0 yX0_requireAstronomer wsX0_requireAstronomer) := goodIn_app (goodIn_of _ (by decide +kernel)) ggX0_stubbornnessOf_X0_requireAstronomer
theorem dX0_stubbornnessOf_0 : decode cX0_stubbornnessOf 0 = .ok (.aload_n 0, 1) := by decide +kernel
theorem dX0_stubbornnessOf_1 : decode cX0_stubbornnessOf 1 = .ok (.iload_n 1, 1) := by decide +kernel
theorem dX0_stubbornnessOf_2 : decode cX0_stubbornnessOf 2 = .ok (.invokevirtual 60, 3) := by decide +kernel
theorem dX0_stubbornnessOf_5 : decode cX0_stubbornnessOf 5 = .ok (.aload_n 0, 1) := by decide +kernel
theorem dX0_stubbornnessOf_6 : decode cX0_stubbornnessOf 6 = .ok (.getfield 33, 3) := by decide +kernel
theorem dX0_stubbornnessOf_9 : decode cX0_stubbornnessOf 9 = .ok (.iload_n 1, 1) := by decide +kernel
theorem dX0_stubbornnessOf_10 : decode cX0_stubbornnessOf 10 = .ok (.iaload, 1) := by decide +kernel
theorem dX0_stubbornnessOf_11 : decode cX0_stubbornnessOf 11 = .ok (.ireturn, 1) := by decide +kernel
set_option maxRecDepth 20000 in
theorem ggX0_unexplainedBy_X0_requireAstronomer : GoodIn wsX0_unexplainedBy wsX0_requireAstronomer := goodIn_ca (goodIn_r _ [6, 7, 8, 9, 15, 16, 17, 18, 19, 20, 21, 22, 23, 24] (by decide +kernel) (by decide +kernel)) (goodIn_sub (fun _ h => List.mem_cons_of_mem _ (List.mem_append_right _ h)) (by decide +kernel))
set_option maxRecDepth 20000 in
theorem gX0_unexplainedBy_X0_requireAstronomer : GoodIn wsX0_unexplainedBy (wsV RX0 60 RX0 yX0_requireAstronomer wsX0_requireAstronomer) := goodIn_app (goodIn_of _ (by decide +kernel)) ggX0_unexplainedBy_X0_requireAstronomer
set_option maxRecDepth 20000 in
theorem ggX0_unexplainedBy_X0_missesOf : GoodIn wsX0_unexplainedBy wsX0_missesOf := goodIn_r _ [13, 14, 15, 16, 17, 18, 19, 20, 21, 22, 23, 24] (by decide +kernel) (by decide +kernel)
set_option maxRecDepth 20000 in
theorem gX0_unexplainedBy_X0_missesOf : GoodIn wsX0_unexplainedBy (wsV RX0 105 RX0 yX0_missesOf wsX0_missesOf) := goodIn_app (goodIn_of _ (by decide +kernel)) ggX0_unexplainedBy_X0_missesOf
theorem dX0_unexplainedBy_0 : decode cX0_unexplainedBy 0 = .ok (.aload_n 0, 1) := by decide +kernel
theorem dX0_unexplainedBy_1 : decode cX0_unexplainedBy 1 = .ok (.iload_n 1, 1) := by decide +kernel
theorem dX0_unexplainedBy_2 : decode cX0_unexplainedBy 2 = .ok (.invokevirtual 60, 3) := by decide +kernel
theorem dX0_unexplainedBy_5 : decode cX0_unexplainedBy 5 = .ok (.aload_n 0, 1) := by decide +kernel
theorem dX0_unexplainedBy_6 : decode cX0_unexplainedBy 6 = .ok (.aload_n 0, 1) := by decide +kernel
theorem dX0_unexplainedBy_7 : decode cX0_unexplainedBy 7 = .ok (.getfield 30, 3) := by decide +kernel
theorem dX0_unexplainedBy_10 : decode cX0_unexplainedBy 10 = .ok (.iload_n 1, 1) := by decide +kernel
theorem dX0_unexplainedBy_11 : decode cX0_unexplainedBy 11 = .ok (.iaload, 1) := by decide +kernel
theorem dX0_unexplainedBy_12 : decode cX0_unexplainedBy 12 = .ok (.invokevirtual 105, 3) := by decide +kernel
theorem dX0_unexplainedBy_15 : decode cX0_unexplainedBy 15 = .ok (.ireturn, 1) := by decide +kernel
set_option maxRecDepth 20000 in
theorem ggX0_votesFor_X0_requireThing : GoodIn wsX0_votesFor wsX0_requireThing := goodIn_ca (goodIn_r _ [7, 8, 9, 10, 17, 18, 19, 20, 21, 22, 23, 24, 25, 26] (by decide +kernel) (by decide +kernel)) (goodIn_sub (fun _ h => List.mem_cons_of_mem _ (List.mem_append_right _ h)) (by decide +kernel))
set_option maxRecDepth 20000 in
theorem gX0_votesFor_X0_requireThing : GoodIn wsX0_votesFor (wsV RX0 84 RX0 yX0_requireThing wsX0_requireThing) := goodIn_app (goodIn_of _ (by decide +kernel)) ggX0_votesFor_X0_requireThing
set_option maxRecDepth 20000 in
theorem ggX0_votesFor_X0_holds : GoodIn wsX0_votesFor wsX0_holds := goodIn_r _ [13, 14, 15, 6, 16] (by decide +kernel) (by decide +kernel)
set_option maxRecDepth 20000 in
theorem gX0_votesFor_X0_holds : GoodIn wsX0_votesFor (va_wsS RX0 87 yX0_holds wsX0_holds) := goodIn_app (goodIn_of _ (by decide +kernel)) ggX0_votesFor_X0_holds
theorem dX0_votesFor_0 : decode cX0_votesFor 0 = .ok (.aload_n 0, 1) := by decide +kernel
theorem dX0_votesFor_1 : decode cX0_votesFor 1 = .ok (.iload_n 1, 1) := by decide +kernel
theorem dX0_votesFor_2 : decode cX0_votesFor 2 = .ok (.invokevirtual 84, 3) := by decide +kernel
theorem dX0_votesFor_5 : decode cX0_votesFor 5 = .ok (.iconst 0, 1) := by decide +kernel
theorem dX0_votesFor_6 : decode cX0_votesFor 6 = .ok (.istore_n 2, 1) := by decide +kernel
theorem dX0_votesFor_7 : decode cX0_votesFor 7 = .ok (.iconst 0, 1) := by decide +kernel
theorem dX0_votesFor_8 : decode cX0_votesFor 8 = .ok (.istore_n 3, 1) := by decide +kernel
theorem dX0_votesFor_9 : decode cX0_votesFor 9 = .ok (.iload_n 3, 1) := by decide +kernel
theorem dX0_votesFor_10 : decode cX0_votesFor 10 = .ok (.aload_n 0, 1) := by decide +kernel
theorem dX0_votesFor_11 : decode cX0_votesFor 11 = .ok (.getfield 27, 3) := by decide +kernel
theorem dX0_votesFor_14 : decode cX0_votesFor 14 = .ok (.if_icmp .ge 25, 3) := by decide +kernel
theorem dX0_votesFor_17 : decode cX0_votesFor 17 = .ok (.aload_n 0, 1) := by decide +kernel
theorem dX0_votesFor_18 : decode cX0_votesFor 18 = .ok (.getfield 30, 3) := by decide +kernel
theorem dX0_votesFor_21 : decode cX0_votesFor 21 = .ok (.iload_n 3, 1) := by decide +kernel
theorem dX0_votesFor_22 : decode cX0_votesFor 22 = .ok (.iaload, 1) := by decide +kernel
theorem dX0_votesFor_23 : decode cX0_votesFor 23 = .ok (.iload_n 1, 1) := by decide +kernel
theorem dX0_votesFor_24 : decode cX0_votesFor 24 = .ok (.invokestatic 87, 3) := by decide +kernel
theorem dX0_votesFor_27 : decode cX0_votesFor 27 = .ok (.ifCond .eq 6, 3) := by decide +kernel
theorem dX0_votesFor_30 : decode cX0_votesFor 30 = .ok (.iinc 2 1, 3) := by decide +kernel
theorem dX0_votesFor_33 : decode cX0_votesFor 33 = .ok (.iinc 3 1, 3) := by decide +kernel
theorem dX0_votesFor_36 : decode cX0_votesFor 36 = .ok (.goto (-27), 3) := by decide +kernel
theorem dX0_votesFor_39 : decode cX0_votesFor 39 = .ok (.iload_n 2, 1) := by decide +kernel
theorem dX0_votesFor_40 : decode cX0_votesFor 40 = .ok (.ireturn, 1) := by decide +kernel
set_option maxRecDepth 20000 in
theorem ggX0_vote_X0_votesFor : GoodIn wsX0_vote wsX0_votesFor := goodIn_ca (goodIn_r _ [7, 2, 8, 9, 10, 11, 6, 12, 13, 14, 1, 15, 16, 17, 18, 19, 20, 21, 22, 23, 24, 25, 26, 27, 28, 29, 30] (by decide +kernel) (by decide +kernel)) (goodIn_sub (fun _ h => List.mem_cons_of_mem _ (List.mem_append_right _ h)) (by decide +kernel))
set_option maxRecDepth 20000 in
theorem gX0_vote_X0_votesFor : GoodIn wsX0_vote (wsV RX0 108 RX0 yX0_votesFor wsX0_votesFor) := goodIn_app (goodIn_of _ (by decide +kernel)) ggX0_vote_X0_votesFor
set_option maxRecDepth 20000 in
theorem ggX0_vote_X0_setOf : GoodIn wsX0_vote wsX0_setOf := goodIn_r _ [20] (by decide +kernel) (by decide +kernel)
set_option maxRecDepth 20000 in
theorem gX0_vote_X0_setOf : GoodIn wsX0_vote (va_wsS RX0 95 yX0_setOf wsX0_setOf) := goodIn_app (goodIn_of _ (by decide +kernel)) ggX0_vote_X0_setOf
theorem dX0_vote_0 : decode cX0_vote 0 = .ok (.iconst 0, 1) := by decide +kernel
theorem dX0_vote_1 : decode cX0_vote 1 = .ok (.istore_n 1, 1) := by decide +kernel
theorem dX0_vote_2 : decode cX0_vote 2 = .ok (.iconst 0, 1) := by decide +kernel
theorem dX0_vote_3 : decode cX0_vote 3 = .ok (.istore_n 2, 1) := by decide +kernel
theorem dX0_vote_4 : decode cX0_vote 4 = .ok (.iload_n 2, 1) := by decide +kernel
theorem dX0_vote_5 : decode cX0_vote 5 = .ok (.aload_n 0, 1) := by decide +kernel
theorem dX0_vote_6 : decode cX0_vote 6 = .ok (.getfield 9, 3) := by decide +kernel
theorem dX0_vote_9 : decode cX0_vote 9 = .ok (.if_icmp .ge 30, 3) := by decide +kernel
theorem dX0_vote_12 : decode cX0_vote 12 = .ok (.aload_n 0, 1) := by decide +kernel
theorem dX0_vote_13 : decode cX0_vote 13 = .ok (.iload_n 2, 1) := by decide +kernel
theorem dX0_vote_14 : decode cX0_vote 14 = .ok (.invokevirtual 108, 3) := by decide +kernel
theorem dX0_vote_17 : decode cX0_vote 17 = .ok (.iconst 2, 1) := by decide +kernel
theorem dX0_vote_18 : decode cX0_vote 18 = .ok (.imul, 1) := by decide +kernel
theorem dX0_vote_19 : decode cX0_vote 19 = .ok (.aload_n 0, 1) := by decide +kernel
theorem dX0_vote_20 : decode cX0_vote 20 = .ok (.getfield 27, 3) := by decide +kernel
theorem dX0_vote_23 : decode cX0_vote 23 = .ok (.if_icmp .le 10, 3) := by decide +kernel
theorem dX0_vote_26 : decode cX0_vote 26 = .ok (.iload_n 1, 1) := by decide +kernel
theorem dX0_vote_27 : decode cX0_vote 27 = .ok (.iload_n 2, 1) := by decide +kernel
theorem dX0_vote_28 : decode cX0_vote 28 = .ok (.invokestatic 95, 3) := by decide +kernel
theorem dX0_vote_31 : decode cX0_vote 31 = .ok (.ior, 1) := by decide +kernel
theorem dX0_vote_32 : decode cX0_vote 32 = .ok (.istore_n 1, 1) := by decide +kernel
theorem dX0_vote_33 : decode cX0_vote 33 = .ok (.iinc 2 1, 3) := by decide +kernel
theorem dX0_vote_36 : decode cX0_vote 36 = .ok (.goto (-32), 3) := by decide +kernel
theorem dX0_vote_39 : decode cX0_vote 39 = .ok (.iload_n 1, 1) := by decide +kernel
theorem dX0_vote_40 : decode cX0_vote 40 = .ok (.ireturn, 1) := by decide +kernel
theorem dX0_changesOfMind_0 : decode cX0_changesOfMind 0 = .ok (.aload_n 0, 1) := by decide +kernel
theorem dX0_changesOfMind_1 : decode cX0_changesOfMind 1 = .ok (.getfield 39, 3) := by decide +kernel
theorem dX0_changesOfMind_4 : decode cX0_changesOfMind 4 = .ok (.ireturn, 1) := by decide +kernel
set_option maxRecDepth 20000 in
theorem ggX0_explainsAll_X0_requireSet : GoodIn wsX0_explainsAll wsX0_requireSet := goodIn_ca (goodIn_r _ [5, 6, 7, 8, 9, 10, 4, 11, 12, 18, 19, 20, 21, 22, 23, 24, 25, 26, 27] (by decide +kernel) (by decide +kernel)) (goodIn_sub (fun _ h => List.mem_cons_of_mem _ (List.mem_append_right _ h)) (by decide +kernel))
set_option maxRecDepth 20000 in
theorem gX0_explainsAll_X0_requireSet : GoodIn wsX0_explainsAll (wsV RX0 64 RX0 yX0_requireSet wsX0_requireSet) := goodIn_app (goodIn_of _ (by decide +kernel)) ggX0_explainsAll_X0_requireSet
set_option maxRecDepth 20000 in
theorem ggX0_explainsAll_X0_missesOf : GoodIn wsX0_explainsAll wsX0_missesOf := goodIn_r _ [16, 17, 18, 19, 20, 21, 22, 23, 24, 25, 26, 27] (by decide +kernel) (by decide +kernel)
set_option maxRecDepth 20000 in
theorem gX0_explainsAll_X0_missesOf : GoodIn wsX0_explainsAll (wsV RX0 105 RX0 yX0_missesOf wsX0_missesOf) := goodIn_app (goodIn_of _ (by decide +kernel)) ggX0_explainsAll_X0_missesOf
theorem dX0_explainsAll_0 : decode cX0_explainsAll 0 = .ok (.aload_n 0, 1) := by decide +kernel
theorem dX0_explainsAll_1 : decode cX0_explainsAll 1 = .ok (.iload_n 1, 1) := by decide +kernel
theorem dX0_explainsAll_2 : decode cX0_explainsAll 2 = .ok (.invokevirtual 64, 3) := by decide +kernel
theorem dX0_explainsAll_5 : decode cX0_explainsAll 5 = .ok (.aload_n 0, 1) := by decide +kernel
theorem dX0_explainsAll_6 : decode cX0_explainsAll 6 = .ok (.iload_n 1, 1) := by decide +kernel
theorem dX0_explainsAll_7 : decode cX0_explainsAll 7 = .ok (.invokevirtual 105, 3) := by decide +kernel
theorem dX0_explainsAll_10 : decode cX0_explainsAll 10 = .ok (.ifCond .ne 7, 3) := by decide +kernel
theorem dX0_explainsAll_13 : decode cX0_explainsAll 13 = .ok (.iconst 1, 1) := by decide +kernel
theorem dX0_explainsAll_14 : decode cX0_explainsAll 14 = .ok (.goto 4, 3) := by decide +kernel
theorem dX0_explainsAll_17 : decode cX0_explainsAll 17 = .ok (.iconst 0, 1) := by decide +kernel
theorem dX0_explainsAll_18 : decode cX0_explainsAll 18 = .ok (.ireturn, 1) := by decide +kernel
set_option maxRecDepth 20000 in
theorem ggX0_explanations_X0_allThings : GoodIn wsX0_explanations wsX0_allThings := goodIn_r _ [5, 6, 12, 13, 14, 15, 16, 17, 18, 19, 20, 21] (by decide +kernel) (by decide +kernel)
set_option maxRecDepth 20000 in
theorem gX0_explanations_X0_allThings : GoodIn wsX0_explanations (wsV RX0 111 RX0 yX0_allThings wsX0_allThings) := goodIn_app (goodIn_of _ (by decide +kernel)) ggX0_explanations_X0_allThings
set_option maxRecDepth 20000 in
theorem ggX0_explanations_X0_missesOf : GoodIn wsX0_explanations wsX0_missesOf := goodIn_r _ [10, 11, 12, 13, 14, 15, 16, 17, 18, 19, 20, 21] (by decide +kernel) (by decide +kernel)
set_option maxRecDepth 20000 in
theorem gX0_explanations_X0_missesOf : GoodIn wsX0_explanations (wsV RX0 105 RX0 yX0_missesOf wsX0_missesOf) := goodIn_app (goodIn_of _ (by decide +kernel)) ggX0_explanations_X0_missesOf
theorem dX0_explanations_0 : decode cX0_explanations 0 = .ok (.iconst 0, 1) := by decide +kernel
theorem dX0_explanations_1 : decode cX0_explanations 1 = .ok (.istore_n 1, 1) := by decide +kernel
theorem dX0_explanations_2 : decode cX0_explanations 2 = .ok (.iconst 0, 1) := by decide +kernel
theorem dX0_explanations_3 : decode cX0_explanations 3 = .ok (.istore_n 2, 1) := by decide +kernel
theorem dX0_explanations_4 : decode cX0_explanations 4 = .ok (.iload_n 2, 1) := by decide +kernel
theorem dX0_explanations_5 : decode cX0_explanations 5 = .ok (.aload_n 0, 1) := by decide +kernel
theorem dX0_explanations_6 : decode cX0_explanations 6 = .ok (.invokevirtual 111, 3) := by decide +kernel
theorem dX0_explanations_9 : decode cX0_explanations 9 = .ok (.if_icmp .gt 20, 3) := by decide +kernel
theorem dX0_explanations_12 : decode cX0_explanations 12 = .ok (.aload_n 0, 1) := by decide +kernel
theorem dX0_explanations_13 : decode cX0_explanations 13 = .ok (.iload_n 2, 1) := by decide +kernel
theorem dX0_explanations_14 : decode cX0_explanations 14 = .ok (.invokevirtual 105, 3) := by decide +kernel
theorem dX0_explanations_17 : decode cX0_explanations 17 = .ok (.ifCond .ne 6, 3) := by decide +kernel
theorem dX0_explanations_20 : decode cX0_explanations 20 = .ok (.iinc 1 1, 3) := by decide +kernel
theorem dX0_explanations_23 : decode cX0_explanations 23 = .ok (.iinc 2 1, 3) := by decide +kernel
theorem dX0_explanations_26 : decode cX0_explanations 26 = .ok (.goto (-22), 3) := by decide +kernel
theorem dX0_explanations_29 : decode cX0_explanations 29 = .ok (.iload_n 1, 1) := by decide +kernel
theorem dX0_explanations_30 : decode cX0_explanations 30 = .ok (.ireturn, 1) := by decide +kernel
set_option maxRecDepth 20000 in
theorem ggX0_simplest_X0_allThings : GoodIn wsX0_simplest wsX0_allThings := goodIn_r _ [5, 6, 19, 20, 21, 22, 23, 24, 25, 26, 27, 28] (by decide +kernel) (by decide +kernel)
set_option maxRecDepth 20000 in
theorem gX0_simplest_X0_allThings : GoodIn wsX0_simplest (wsV RX0 111 RX0 yX0_allThings wsX0_allThings) := goodIn_app (goodIn_of _ (by decide +kernel)) ggX0_simplest_X0_allThings
set_option maxRecDepth 20000 in
theorem ggX0_simplest_X0_missesOf : GoodIn wsX0_simplest wsX0_missesOf := goodIn_r _ [10, 11, 19, 20, 21, 22, 23, 24, 25, 26, 27, 28] (by decide +kernel) (by decide +kernel)
set_option maxRecDepth 20000 in
theorem gX0_simplest_X0_missesOf : GoodIn wsX0_simplest (wsV RX0 105 RX0 yX0_missesOf wsX0_missesOf) := goodIn_app (goodIn_of _ (by decide +kernel)) ggX0_simplest_X0_missesOf
set_option maxRecDepth 20000 in
theorem ggX0_simplest_J6_bitCount_0f7a4 : GoodIn wsX0_simplest wsJ6_bitCount_0f7a4 := goodIn_r _ [15, 16, 17, 18] (by decide +kernel) (by decide +kernel)
set_option maxRecDepth 20000 in
theorem gX0_simplest_J6_bitCount_0f7a4 : GoodIn wsX0_simplest (va_wsS RX0 114 yJ6_bitCount_0f7a4 wsJ6_bitCount_0f7a4) := goodIn_app (goodIn_of _ (by decide +kernel)) ggX0_simplest_J6_bitCount_0f7a4
theorem dX0_simplest_0 : decode cX0_simplest 0 = .ok (.iconst (-1), 1) := by decide +kernel
theorem dX0_simplest_1 : decode cX0_simplest 1 = .ok (.istore_n 1, 1) := by decide +kernel
theorem dX0_simplest_2 : decode cX0_simplest 2 = .ok (.bipush 9, 2) := by decide +kernel
theorem dX0_simplest_4 : decode cX0_simplest 4 = .ok (.istore_n 2, 1) := by decide +kernel
theorem dX0_simplest_5 : decode cX0_simplest 5 = .ok (.iconst 0, 1) := by decide +kernel
theorem dX0_simplest_6 : decode cX0_simplest 6 = .ok (.istore_n 3, 1) := by decide +kernel
theorem dX0_simplest_7 : decode cX0_simplest 7 = .ok (.iload_n 3, 1) := by decide +kernel
theorem dX0_simplest_8 : decode cX0_simplest 8 = .ok (.aload_n 0, 1) := by decide +kernel
theorem dX0_simplest_9 : decode cX0_simplest 9 = .ok (.invokevirtual 111, 3) := by decide +kernel
theorem dX0_simplest_12 : decode cX0_simplest 12 = .ok (.if_icmp .gt 32, 3) := by decide +kernel
theorem dX0_simplest_15 : decode cX0_simplest 15 = .ok (.aload_n 0, 1) := by decide +kernel
theorem dX0_simplest_16 : decode cX0_simplest 16 = .ok (.iload_n 3, 1) := by decide +kernel
theorem dX0_simplest_17 : decode cX0_simplest 17 = .ok (.invokevirtual 105, 3) := by decide +kernel
theorem dX0_simplest_20 : decode cX0_simplest 20 = .ok (.ifCond .ne 18, 3) := by decide +kernel
theorem dX0_simplest_23 : decode cX0_simplest 23 = .ok (.iload_n 3, 1) := by decide +kernel
theorem dX0_simplest_24 : decode cX0_simplest 24 = .ok (.invokestatic 114, 3) := by decide +kernel
theorem dX0_simplest_27 : decode cX0_simplest 27 = .ok (.iload_n 2, 1) := by decide +kernel
theorem dX0_simplest_28 : decode cX0_simplest 28 = .ok (.if_icmp .ge 10, 3) := by decide +kernel
theorem dX0_simplest_31 : decode cX0_simplest 31 = .ok (.iload_n 3, 1) := by decide +kernel
theorem dX0_simplest_32 : decode cX0_simplest 32 = .ok (.istore_n 1, 1) := by decide +kernel
theorem dX0_simplest_33 : decode cX0_simplest 33 = .ok (.iload_n 3, 1) := by decide +kernel
theorem dX0_simplest_34 : decode cX0_simplest 34 = .ok (.invokestatic 114, 3) := by decide +kernel
theorem dX0_simplest_37 : decode cX0_simplest 37 = .ok (.istore_n 2, 1) := by decide +kernel
theorem dX0_simplest_38 : decode cX0_simplest 38 = .ok (.iinc 3 1, 3) := by decide +kernel
theorem dX0_simplest_41 : decode cX0_simplest 41 = .ok (.goto (-34), 3) := by decide +kernel
theorem dX0_simplest_44 : decode cX0_simplest 44 = .ok (.iload_n 1, 1) := by decide +kernel
theorem dX0_simplest_45 : decode cX0_simplest 45 = .ok (.ireturn, 1) := by decide +kernel
set_option maxRecDepth 20000 in
theorem ggX0_surelyToBlame_X0_agree : GoodIn wsX0_surelyToBlame wsX0_agree := goodIn_r _ [5, 6, 7, 8, 4, 9, 10, 11, 12, 13, 14, 15, 16, 17, 18, 19, 20, 21, 22, 23, 24, 25, 26, 27, 28, 29, 30, 31, 32, 33, 34] (by decide +kernel) (by decide +kernel)
set_option maxRecDepth 20000 in
theorem gX0_surelyToBlame_X0_agree : GoodIn wsX0_surelyToBlame (wsV RX0 119 RX0 yX0_agree wsX0_agree) := goodIn_app (goodIn_of _ (by decide +kernel)) ggX0_surelyToBlame_X0_agree
set_option maxRecDepth 20000 in
theorem ggX0_surelyToBlame_X0_allThings : GoodIn wsX0_surelyToBlame wsX0_allThings := goodIn_r _ [18, 19, 25, 26, 27, 28, 29, 30, 31, 32, 33, 34] (by decide +kernel) (by decide +kernel)
set_option maxRecDepth 20000 in
theorem gX0_surelyToBlame_X0_allThings : GoodIn wsX0_surelyToBlame (wsV RX0 111 RX0 yX0_allThings wsX0_allThings) := goodIn_app (goodIn_of _ (by decide +kernel)) ggX0_surelyToBlame_X0_allThings
set_option maxRecDepth 20000 in
theorem ggX0_surelyToBlame_X0_missesOf : GoodIn wsX0_surelyToBlame wsX0_missesOf := goodIn_r _ [23, 24, 25, 26, 27, 28, 29, 30, 31, 32, 33, 34] (by decide +kernel) (by decide +kernel)
set_option maxRecDepth 20000 in
theorem gX0_surelyToBlame_X0_missesOf : GoodIn wsX0_surelyToBlame (wsV RX0 105 RX0 yX0_missesOf wsX0_missesOf) := goodIn_app (goodIn_of _ (by decide +kernel)) ggX0_surelyToBlame_X0_missesOf
theorem dX0_surelyToBlame_0 : decode cX0_surelyToBlame 0 = .ok (.aload_n 0, 1) := by decide +kernel
theorem dX0_surelyToBlame_1 : decode cX0_surelyToBlame 1 = .ok (.invokevirtual 119, 3) := by decide +kernel
theorem dX0_surelyToBlame_4 : decode cX0_surelyToBlame 4 = .ok (.ifCond .ne 5, 3) := by decide +kernel
theorem dX0_surelyToBlame_7 : decode cX0_surelyToBlame 7 = .ok (.iconst (-1), 1) := by decide +kernel
theorem dX0_surelyToBlame_8 : decode cX0_surelyToBlame 8 = .ok (.ireturn, 1) := by decide +kernel
theorem dX0_surelyToBlame_9 : decode cX0_surelyToBlame 9 = .ok (.aload_n 0, 1) := by decide +kernel
theorem dX0_surelyToBlame_10 : decode cX0_surelyToBlame 10 = .ok (.invokevirtual 111, 3) := by decide +kernel
theorem dX0_surelyToBlame_13 : decode cX0_surelyToBlame 13 = .ok (.istore_n 1, 1) := by decide +kernel
theorem dX0_surelyToBlame_14 : decode cX0_surelyToBlame 14 = .ok (.iconst 0, 1) := by decide +kernel
theorem dX0_surelyToBlame_15 : decode cX0_surelyToBlame 15 = .ok (.istore_n 2, 1) := by decide +kernel
theorem dX0_surelyToBlame_16 : decode cX0_surelyToBlame 16 = .ok (.iload_n 2, 1) := by decide +kernel
theorem dX0_surelyToBlame_17 : decode cX0_surelyToBlame 17 = .ok (.aload_n 0, 1) := by decide +kernel
theorem dX0_surelyToBlame_18 : decode cX0_surelyToBlame 18 = .ok (.invokevirtual 111, 3) := by decide +kernel
theorem dX0_surelyToBlame_21 : decode cX0_surelyToBlame 21 = .ok (.if_icmp .gt 21, 3) := by decide +kernel
theorem dX0_surelyToBlame_24 : decode cX0_surelyToBlame 24 = .ok (.aload_n 0, 1) := by decide +kernel
theorem dX0_surelyToBlame_25 : decode cX0_surelyToBlame 25 = .ok (.iload_n 2, 1) := by decide +kernel
theorem dX0_surelyToBlame_26 : decode cX0_surelyToBlame 26 = .ok (.invokevirtual 105, 3) := by decide +kernel
theorem dX0_surelyToBlame_29 : decode cX0_surelyToBlame 29 = .ok (.ifCond .ne 7, 3) := by decide +kernel
theorem dX0_surelyToBlame_32 : decode cX0_surelyToBlame 32 = .ok (.iload_n 1, 1) := by decide +kernel
theorem dX0_surelyToBlame_33 : decode cX0_surelyToBlame 33 = .ok (.iload_n 2, 1) := by decide +kernel
theorem dX0_surelyToBlame_34 : decode cX0_surelyToBlame 34 = .ok (.iand, 1) := by decide +kernel
theorem dX0_surelyToBlame_35 : decode cX0_surelyToBlame 35 = .ok (.istore_n 1, 1) := by decide +kernel
theorem dX0_surelyToBlame_36 : decode cX0_surelyToBlame 36 = .ok (.iinc 2 1, 3) := by decide +kernel
theorem dX0_surelyToBlame_39 : decode cX0_surelyToBlame 39 = .ok (.goto (-23), 3) := by decide +kernel
theorem dX0_surelyToBlame_42 : decode cX0_surelyToBlame 42 = .ok (.iload_n 1, 1) := by decide +kernel
theorem dX0_surelyToBlame_43 : decode cX0_surelyToBlame 43 = .ok (.ireturn, 1) := by decide +kernel
set_option maxRecDepth 20000 in
theorem ggX0_nightsToDoubt_X0_allThings : GoodIn wsX0_nightsToDoubt wsX0_allThings := goodIn_r _ [10, 11, 17, 18, 19, 20, 21, 22, 23, 24, 25, 26] (by decide +kernel) (by decide +kernel)
set_option maxRecDepth 20000 in
theorem gX0_nightsToDoubt_X0_allThings : GoodIn wsX0_nightsToDoubt (wsV RX0 111 RX0 yX0_allThings wsX0_allThings) := goodIn_app (goodIn_of _ (by decide +kernel)) ggX0_nightsToDoubt_X0_allThings
set_option maxRecDepth 20000 in
theorem ggX0_nightsToDoubt_X0_missesOf : GoodIn wsX0_nightsToDoubt wsX0_missesOf := goodIn_r _ [15, 16, 17, 18, 19, 20, 21, 22, 23, 24, 25, 26] (by decide +kernel) (by decide +kernel)
set_option maxRecDepth 20000 in
theorem gX0_nightsToDoubt_X0_missesOf : GoodIn wsX0_nightsToDoubt (wsV RX0 105 RX0 yX0_missesOf wsX0_missesOf) := goodIn_app (goodIn_of _ (by decide +kernel)) ggX0_nightsToDoubt_X0_missesOf
theorem dX0_nightsToDoubt_0 : decode cX0_nightsToDoubt 0 = .ok (.aload_n 0, 1) := by decide +kernel
theorem dX0_nightsToDoubt_1 : decode cX0_nightsToDoubt 1 = .ok (.getfield 13, 3) := by decide +kernel
theorem dX0_nightsToDoubt_4 : decode cX0_nightsToDoubt 4 = .ok (.istore_n 1, 1) := by decide +kernel
theorem dX0_nightsToDoubt_5 : decode cX0_nightsToDoubt 5 = .ok (.iconst 0, 1) := by decide +kernel
theorem dX0_nightsToDoubt_6 : decode cX0_nightsToDoubt 6 = .ok (.istore_n 2, 1) := by decide +kernel
theorem dX0_nightsToDoubt_7 : decode cX0_nightsToDoubt 7 = .ok (.iload_n 2, 1) := by decide +kernel
theorem dX0_nightsToDoubt_8 : decode cX0_nightsToDoubt 8 = .ok (.aload_n 0, 1) := by decide +kernel
theorem dX0_nightsToDoubt_9 : decode cX0_nightsToDoubt 9 = .ok (.invokevirtual 111, 3) := by decide +kernel
theorem dX0_nightsToDoubt_12 : decode cX0_nightsToDoubt 12 = .ok (.if_icmp .gt 19, 3) := by decide +kernel
theorem dX0_nightsToDoubt_15 : decode cX0_nightsToDoubt 15 = .ok (.iload_n 1, 1) := by decide +kernel
theorem dX0_nightsToDoubt_16 : decode cX0_nightsToDoubt 16 = .ok (.aload_n 0, 1) := by decide +kernel
theorem dX0_nightsToDoubt_17 : decode cX0_nightsToDoubt 17 = .ok (.iload_n 2, 1) := by decide +kernel
theorem dX0_nightsToDoubt_18 : decode cX0_nightsToDoubt 18 = .ok (.invokevirtual 105, 3) := by decide +kernel
theorem dX0_nightsToDoubt_21 : decode cX0_nightsToDoubt 21 = .ok (.invokestatic 123, 3) := by decide +kernel
theorem dX0_nightsToDoubt_24 : decode cX0_nightsToDoubt 24 = .ok (.istore_n 1, 1) := by decide +kernel
theorem dX0_nightsToDoubt_25 : decode cX0_nightsToDoubt 25 = .ok (.iinc 2 1, 3) := by decide +kernel
theorem dX0_nightsToDoubt_28 : decode cX0_nightsToDoubt 28 = .ok (.goto (-21), 3) := by decide +kernel
theorem dX0_nightsToDoubt_31 : decode cX0_nightsToDoubt 31 = .ok (.iload_n 1, 1) := by decide +kernel
theorem dX0_nightsToDoubt_32 : decode cX0_nightsToDoubt 32 = .ok (.ireturn, 1) := by decide +kernel
set_option maxRecDepth 20000 in
theorem ggX0_leftIfSmudged_X0_requireUsableSet : GoodIn wsX0_leftIfSmudged wsX0_requireUsableSet := goodIn_ca (goodIn_r _ [5, 6, 7, 8, 9, 10, 4, 11, 12, 22, 23, 24, 25, 26, 27, 28, 29, 30, 31] (by decide +kernel) (by decide +kernel)) (goodIn_sub (fun _ h => List.mem_cons_of_mem _ (List.mem_append_right _ h)) (by decide +kernel))
set_option maxRecDepth 20000 in
theorem gX0_leftIfSmudged_X0_requireUsableSet : GoodIn wsX0_leftIfSmudged (wsV RX0 67 RX0 yX0_requireUsableSet wsX0_requireUsableSet) := goodIn_app (goodIn_of _ (by decide +kernel)) ggX0_leftIfSmudged_X0_requireUsableSet
set_option maxRecDepth 20000 in
theorem ggX0_leftIfSmudged_X0_explanationsMeeting : GoodIn wsX0_leftIfSmudged wsX0_explanationsMeeting := goodIn_r _ [16, 8, 9, 10, 4, 11, 12, 17, 18, 19, 20, 21, 22, 23, 24, 25, 26, 27, 28, 29, 30, 31] (by decide +kernel) (by decide +kernel)
set_option maxRecDepth 20000 in
theorem gX0_leftIfSmudged_X0_explanationsMeeting : GoodIn wsX0_leftIfSmudged (wsV RX0 99 RX0 yX0_explanationsMeeting wsX0_explanationsMeeting) := goodIn_app (goodIn_of _ (by decide +kernel)) ggX0_leftIfSmudged_X0_explanationsMeeting
theorem dX0_leftIfSmudged_0 : decode cX0_leftIfSmudged 0 = .ok (.aload_n 0, 1) := by decide +kernel
theorem dX0_leftIfSmudged_1 : decode cX0_leftIfSmudged 1 = .ok (.iload_n 1, 1) := by decide +kernel
theorem dX0_leftIfSmudged_2 : decode cX0_leftIfSmudged 2 = .ok (.invokevirtual 67, 3) := by decide +kernel
theorem dX0_leftIfSmudged_5 : decode cX0_leftIfSmudged 5 = .ok (.aload_n 0, 1) := by decide +kernel
theorem dX0_leftIfSmudged_6 : decode cX0_leftIfSmudged 6 = .ok (.iload_n 1, 1) := by decide +kernel
theorem dX0_leftIfSmudged_7 : decode cX0_leftIfSmudged 7 = .ok (.invokevirtual 99, 3) := by decide +kernel
theorem dX0_leftIfSmudged_10 : decode cX0_leftIfSmudged 10 = .ok (.ireturn, 1) := by decide +kernel
set_option maxRecDepth 20000 in
theorem ggX0_bestNight_X0_explanations : GoodIn wsX0_bestNight wsX0_explanations := goodIn_r _ [9, 10, 11, 12, 8, 13, 14, 15, 16, 17, 18, 19, 24, 25, 26, 27, 28, 29, 30, 31, 32, 33] (by decide +kernel) (by decide +kernel)
set_option maxRecDepth 20000 in
theorem gX0_bestNight_X0_explanations : GoodIn wsX0_bestNight (wsV RX0 129 RX0 yX0_explanations wsX0_explanations) := goodIn_app (goodIn_of _ (by decide +kernel)) ggX0_bestNight_X0_explanations
set_option maxRecDepth 20000 in
theorem ggX0_bestNight_X0_allThings : GoodIn wsX0_bestNight wsX0_allThings := goodIn_r _ [13, 14, 24, 25, 26, 27, 28, 29, 30, 31, 32, 33] (by decide +kernel) (by decide +kernel)
set_option maxRecDepth 20000 in
theorem gX0_bestNight_X0_allThings : GoodIn wsX0_bestNight (wsV RX0 111 RX0 yX0_allThings wsX0_allThings) := goodIn_app (goodIn_of _ (by decide +kernel)) ggX0_bestNight_X0_allThings
set_option maxRecDepth 20000 in
theorem ggX0_bestNight_X0_explanationsMeeting : GoodIn wsX0_bestNight wsX0_explanationsMeeting := goodIn_r _ [23, 10, 11, 12, 8, 13, 14, 15, 16, 17, 18, 19, 24, 25, 26, 27, 28, 29, 30, 31, 32, 33] (by decide +kernel) (by decide +kernel)
set_option maxRecDepth 20000 in
theorem gX0_bestNight_X0_explanationsMeeting : GoodIn wsX0_bestNight (wsV RX0 99 RX0 yX0_explanationsMeeting wsX0_explanationsMeeting) := goodIn_app (goodIn_of _ (by decide +kernel)) ggX0_bestNight_X0_explanationsMeeting
theorem dX0_bestNight_0 : decode cX0_bestNight 0 = .ok (.iconst (-1), 1) := by decide +kernel
theorem dX0_bestNight_1 : decode cX0_bestNight 1 = .ok (.istore_n 1, 1) := by decide +kernel
theorem dX0_bestNight_2 : decode cX0_bestNight 2 = .ok (.sipush 257, 3) := by decide +kernel
theorem dX0_bestNight_5 : decode cX0_bestNight 5 = .ok (.istore_n 2, 1) := by decide +kernel
theorem dX0_bestNight_6 : decode cX0_bestNight 6 = .ok (.aload_n 0, 1) := by decide +kernel
theorem dX0_bestNight_7 : decode cX0_bestNight 7 = .ok (.invokevirtual 129, 3) := by decide +kernel
theorem dX0_bestNight_10 : decode cX0_bestNight 10 = .ok (.istore_n 3, 1) := by decide +kernel
theorem dX0_bestNight_11 : decode cX0_bestNight 11 = .ok (.iload_n 3, 1) := by decide +kernel
theorem dX0_bestNight_12 : decode cX0_bestNight 12 = .ok (.iconst 1, 1) := by decide +kernel
theorem dX0_bestNight_13 : decode cX0_bestNight 13 = .ok (.iadd, 1) := by decide +kernel
theorem dX0_bestNight_14 : decode cX0_bestNight 14 = .ok (.iconst 2, 1) := by decide +kernel
theorem dX0_bestNight_15 : decode cX0_bestNight 15 = .ok (.idiv, 1) := by decide +kernel
theorem dX0_bestNight_16 : decode cX0_bestNight 16 = .ok (.istore 4, 2) := by decide +kernel
theorem dX0_bestNight_18 : decode cX0_bestNight 18 = .ok (.iconst 1, 1) := by decide +kernel
theorem dX0_bestNight_19 : decode cX0_bestNight 19 = .ok (.istore 5, 2) := by decide +kernel
theorem dX0_bestNight_21 : decode cX0_bestNight 21 = .ok (.iload 5, 2) := by decide +kernel
theorem dX0_bestNight_23 : decode cX0_bestNight 23 = .ok (.aload_n 0, 1) := by decide +kernel
theorem dX0_bestNight_24 : decode cX0_bestNight 24 = .ok (.invokevirtual 111, 3) := by decide +kernel
theorem dX0_bestNight_27 : decode cX0_bestNight 27 = .ok (.if_icmp .gt 46, 3) := by decide +kernel
theorem dX0_bestNight_30 : decode cX0_bestNight 30 = .ok (.iload_n 2, 1) := by decide +kernel
theorem dX0_bestNight_31 : decode cX0_bestNight 31 = .ok (.iload 4, 2) := by decide +kernel
theorem dX0_bestNight_33 : decode cX0_bestNight 33 = .ok (.if_icmp .le 40, 3) := by decide +kernel
theorem dX0_bestNight_36 : decode cX0_bestNight 36 = .ok (.aload_n 0, 1) := by decide +kernel
theorem dX0_bestNight_37 : decode cX0_bestNight 37 = .ok (.iload 5, 2) := by decide +kernel
theorem dX0_bestNight_39 : decode cX0_bestNight 39 = .ok (.invokevirtual 99, 3) := by decide +kernel
theorem dX0_bestNight_42 : decode cX0_bestNight 42 = .ok (.istore 6, 2) := by decide +kernel
theorem dX0_bestNight_44 : decode cX0_bestNight 44 = .ok (.iload 6, 2) := by decide +kernel
theorem dX0_bestNight_46 : decode cX0_bestNight 46 = .ok (.iload_n 3, 1) := by decide +kernel
theorem dX0_bestNight_47 : decode cX0_bestNight 47 = .ok (.iload 6, 2) := by decide +kernel
theorem dX0_bestNight_49 : decode cX0_bestNight 49 = .ok (.isub, 1) := by decide +kernel
theorem dX0_bestNight_50 : decode cX0_bestNight 50 = .ok (.invokestatic 132, 3) := by decide +kernel
theorem dX0_bestNight_53 : decode cX0_bestNight 53 = .ok (.istore 7, 2) := by decide +kernel
theorem dX0_bestNight_55 : decode cX0_bestNight 55 = .ok (.iload 7, 2) := by decide +kernel
theorem dX0_bestNight_57 : decode cX0_bestNight 57 = .ok (.iload_n 2, 1) := by decide +kernel
theorem dX0_bestNight_58 : decode cX0_bestNight 58 = .ok (.if_icmp .ge 9, 3) := by decide +kernel
theorem dX0_bestNight_61 : decode cX0_bestNight 61 = .ok (.iload 5, 2) := by decide +kernel
theorem dX0_bestNight_63 : decode cX0_bestNight 63 = .ok (.istore_n 1, 1) := by decide +kernel
theorem dX0_bestNight_64 : decode cX0_bestNight 64 = .ok (.iload 7, 2) := by decide +kernel
theorem dX0_bestNight_66 : decode cX0_bestNight 66 = .ok (.istore_n 2, 1) := by decide +kernel
theorem dX0_bestNight_67 : decode cX0_bestNight 67 = .ok (.iinc 5 1, 3) := by decide +kernel
theorem dX0_bestNight_70 : decode cX0_bestNight 70 = .ok (.goto (-49), 3) := by decide +kernel
theorem dX0_bestNight_73 : decode cX0_bestNight 73 = .ok (.iload_n 1, 1) := by decide +kernel
theorem dX0_bestNight_74 : decode cX0_bestNight 74 = .ok (.ireturn, 1) := by decide +kernel
set_option maxRecDepth 20000 in
theorem ggX0_wouldChange_X0_requireUsableSet : GoodIn wsX0_wouldChange wsX0_requireUsableSet := goodIn_ca (goodIn_r _ [8, 9, 10, 11, 12, 13, 7, 14, 15, 35, 36, 37, 38, 39, 40, 41, 42, 43, 44] (by decide +kernel) (by decide +kernel)) (goodIn_sub (fun _ h => List.mem_cons_of_mem _ (List.mem_append_left _ (List.mem_append_right _ h))) (by decide +kernel))
set_option maxRecDepth 20000 in
theorem gX0_wouldChange_X0_requireUsableSet : GoodIn wsX0_wouldChange (wsV RX0 67 RX0 yX0_requireUsableSet wsX0_requireUsableSet) := goodIn_app (goodIn_of _ (by decide +kernel)) ggX0_wouldChange_X0_requireUsableSet
set_option maxRecDepth 20000 in
theorem ggX0_wouldChange_X0_requireRoomForNight : GoodIn wsX0_wouldChange wsX0_requireRoomForNight := goodIn_ca (goodIn_r _ [19, 20, 21, 22, 35, 36, 37, 38, 39, 40, 41, 42, 43, 44] (by decide +kernel) (by decide +kernel)) (goodIn_sub (fun _ h => List.mem_cons_of_mem _ (List.mem_append_right _ h)) (by decide +kernel))
set_option maxRecDepth 20000 in
theorem gX0_wouldChange_X0_requireRoomForNight : GoodIn wsX0_wouldChange (wsV RX0 70 RX0 yX0_requireRoomForNight wsX0_requireRoomForNight) := goodIn_app (goodIn_of _ (by decide +kernel)) ggX0_wouldChange_X0_requireRoomForNight
set_option maxRecDepth 20000 in
theorem ggX0_wouldChange_X0_wouldAgreeWith : GoodIn wsX0_wouldChange wsX0_wouldAgreeWith := goodIn_r _ [26, 11, 12, 13, 7, 14, 15, 27, 28, 29, 30, 31, 32, 33, 34, 35, 36, 37, 38, 39, 40, 41, 42, 43, 44] (by decide +kernel) (by decide +kernel)
set_option maxRecDepth 20000 in
theorem gX0_wouldChange_X0_wouldAgreeWith : GoodIn wsX0_wouldChange (wsV RX0 135 RX0 yX0_wouldAgreeWith wsX0_wouldAgreeWith) := goodIn_app (goodIn_of _ (by decide +kernel)) ggX0_wouldChange_X0_wouldAgreeWith
set_option maxRecDepth 20000 in
theorem ggX0_wouldChange_X0_explains : GoodIn wsX0_wouldChange wsX0_explains := goodIn_r _ [34] (by decide +kernel) (by decide +kernel)
set_option maxRecDepth 20000 in
theorem gX0_wouldChange_X0_explains : GoodIn wsX0_wouldChange (va_wsS RX0 139 yX0_explains wsX0_explains) := goodIn_app (goodIn_of _ (by decide +kernel)) ggX0_wouldChange_X0_explains
theorem dX0_wouldChange_0 : decode cX0_wouldChange 0 = .ok (.aload_n 0, 1) := by decide +kernel
theorem dX0_wouldChange_1 : decode cX0_wouldChange 1 = .ok (.iload_n 1, 1) := by decide +kernel
theorem dX0_wouldChange_2 : decode cX0_wouldChange 2 = .ok (.invokevirtual 67, 3) := by decide +kernel
theorem dX0_wouldChange_5 : decode cX0_wouldChange 5 = .ok (.aload_n 0, 1) := by decide +kernel
theorem dX0_wouldChange_6 : decode cX0_wouldChange 6 = .ok (.invokevirtual 70, 3) := by decide +kernel
theorem dX0_wouldChange_9 : decode cX0_wouldChange 9 = .ok (.aload_n 0, 1) := by decide +kernel
theorem dX0_wouldChange_10 : decode cX0_wouldChange 10 = .ok (.iload_n 1, 1) := by decide +kernel
theorem dX0_wouldChange_11 : decode cX0_wouldChange 11 = .ok (.iload_n 2, 1) := by decide +kernel
theorem dX0_wouldChange_12 : decode cX0_wouldChange 12 = .ok (.invokevirtual 135, 3) := by decide +kernel
theorem dX0_wouldChange_15 : decode cX0_wouldChange 15 = .ok (.ifCond .ne 5, 3) := by decide +kernel
theorem dX0_wouldChange_18 : decode cX0_wouldChange 18 = .ok (.iconst 0, 1) := by decide +kernel
theorem dX0_wouldChange_19 : decode cX0_wouldChange 19 = .ok (.ireturn, 1) := by decide +kernel
theorem dX0_wouldChange_20 : decode cX0_wouldChange 20 = .ok (.iconst 0, 1) := by decide +kernel
theorem dX0_wouldChange_21 : decode cX0_wouldChange 21 = .ok (.istore_n 3, 1) := by decide +kernel
theorem dX0_wouldChange_22 : decode cX0_wouldChange 22 = .ok (.iconst 0, 1) := by decide +kernel
theorem dX0_wouldChange_23 : decode cX0_wouldChange 23 = .ok (.istore 4, 2) := by decide +kernel
theorem dX0_wouldChange_25 : decode cX0_wouldChange 25 = .ok (.iload 4, 2) := by decide +kernel
theorem dX0_wouldChange_27 : decode cX0_wouldChange 27 = .ok (.aload_n 0, 1) := by decide +kernel
theorem dX0_wouldChange_28 : decode cX0_wouldChange 28 = .ok (.getfield 27, 3) := by decide +kernel
theorem dX0_wouldChange_31 : decode cX0_wouldChange 31 = .ok (.if_icmp .ge 37, 3) := by decide +kernel
theorem dX0_wouldChange_34 : decode cX0_wouldChange 34 = .ok (.aload_n 0, 1) := by decide +kernel
theorem dX0_wouldChange_35 : decode cX0_wouldChange 35 = .ok (.getfield 30, 3) := by decide +kernel
theorem dX0_wouldChange_38 : decode cX0_wouldChange 38 = .ok (.iload 4, 2) := by decide +kernel
theorem dX0_wouldChange_40 : decode cX0_wouldChange 40 = .ok (.iaload, 1) := by decide +kernel
theorem dX0_wouldChange_41 : decode cX0_wouldChange 41 = .ok (.iload_n 1, 1) := by decide +kernel
theorem dX0_wouldChange_42 : decode cX0_wouldChange 42 = .ok (.iload_n 2, 1) := by decide +kernel
theorem dX0_wouldChange_43 : decode cX0_wouldChange 43 = .ok (.invokestatic 139, 3) := by decide +kernel
theorem dX0_wouldChange_46 : decode cX0_wouldChange 46 = .ok (.ifCond .ne 16, 3) := by decide +kernel
theorem dX0_wouldChange_49 : decode cX0_wouldChange 49 = .ok (.aload_n 0, 1) := by decide +kernel
theorem dX0_wouldChange_50 : decode cX0_wouldChange 50 = .ok (.getfield 33, 3) := by decide +kernel
theorem dX0_wouldChange_53 : decode cX0_wouldChange 53 = .ok (.iload 4, 2) := by decide +kernel
theorem dX0_wouldChange_55 : decode cX0_wouldChange 55 = .ok (.iaload, 1) := by decide +kernel
theorem dX0_wouldChange_56 : decode cX0_wouldChange 56 = .ok (.ifCond .ne 6, 3) := by decide +kernel
theorem dX0_wouldChange_59 : decode cX0_wouldChange 59 = .ok (.iinc 3 1, 3) := by decide +kernel
theorem dX0_wouldChange_62 : decode cX0_wouldChange 62 = .ok (.iinc 4 1, 3) := by decide +kernel
theorem dX0_wouldChange_65 : decode cX0_wouldChange 65 = .ok (.goto (-40), 3) := by decide +kernel
theorem dX0_wouldChange_68 : decode cX0_wouldChange 68 = .ok (.iload_n 3, 1) := by decide +kernel
theorem dX0_wouldChange_69 : decode cX0_wouldChange 69 = .ok (.ireturn, 1) := by decide +kernel
set_option maxRecDepth 20000 in
theorem ggX0_meanBlame_J6_bitCount_0f7a4 : GoodIn wsX0_meanBlame wsJ6_bitCount_0f7a4 := goodIn_r _ [6, 7, 8, 9] (by decide +kernel) (by decide +kernel)
set_option maxRecDepth 20000 in
theorem gX0_meanBlame_J6_bitCount_0f7a4 : GoodIn wsX0_meanBlame (va_wsS RX0 114 yJ6_bitCount_0f7a4 wsJ6_bitCount_0f7a4) := goodIn_app (goodIn_of _ (by decide +kernel)) ggX0_meanBlame_J6_bitCount_0f7a4
theorem dX0_meanBlame_0 : decode cX0_meanBlame 0 = .ok (.aload_n 0, 1) := by decide +kernel
theorem dX0_meanBlame_1 : decode cX0_meanBlame 1 = .ok (.getfield 27, 3) := by decide +kernel
theorem dX0_meanBlame_4 : decode cX0_meanBlame 4 = .ok (.ifCond .ne 5, 3) := by decide +kernel
theorem dX0_meanBlame_7 : decode cX0_meanBlame 7 = .ok (.dconst 0, 1) := by decide +kernel
theorem dX0_meanBlame_8 : decode cX0_meanBlame 8 = .ok (.dreturn, 1) := by decide +kernel
theorem dX0_meanBlame_9 : decode cX0_meanBlame 9 = .ok (.iconst 0, 1) := by decide +kernel
theorem dX0_meanBlame_10 : decode cX0_meanBlame 10 = .ok (.istore_n 1, 1) := by decide +kernel
theorem dX0_meanBlame_11 : decode cX0_meanBlame 11 = .ok (.iconst 0, 1) := by decide +kernel
theorem dX0_meanBlame_12 : decode cX0_meanBlame 12 = .ok (.istore_n 2, 1) := by decide +kernel
theorem dX0_meanBlame_13 : decode cX0_meanBlame 13 = .ok (.iload_n 2, 1) := by decide +kernel
theorem dX0_meanBlame_14 : decode cX0_meanBlame 14 = .ok (.aload_n 0, 1) := by decide +kernel
theorem dX0_meanBlame_15 : decode cX0_meanBlame 15 = .ok (.getfield 27, 3) := by decide +kernel
theorem dX0_meanBlame_18 : decode cX0_meanBlame 18 = .ok (.if_icmp .ge 21, 3) := by decide +kernel
theorem dX0_meanBlame_21 : decode cX0_meanBlame 21 = .ok (.iload_n 1, 1) := by decide +kernel
theorem dX0_meanBlame_22 : decode cX0_meanBlame 22 = .ok (.aload_n 0, 1) := by decide +kernel
theorem dX0_meanBlame_23 : decode cX0_meanBlame 23 = .ok (.getfield 30, 3) := by decide +kernel
theorem dX0_meanBlame_26 : decode cX0_meanBlame 26 = .ok (.iload_n 2, 1) := by decide +kernel
theorem dX0_meanBlame_27 : decode cX0_meanBlame 27 = .ok (.iaload, 1) := by decide +kernel
theorem dX0_meanBlame_28 : decode cX0_meanBlame 28 = .ok (.invokestatic 114, 3) := by decide +kernel
theorem dX0_meanBlame_31 : decode cX0_meanBlame 31 = .ok (.iadd, 1) := by decide +kernel
theorem dX0_meanBlame_32 : decode cX0_meanBlame 32 = .ok (.istore_n 1, 1) := by decide +kernel
theorem dX0_meanBlame_33 : decode cX0_meanBlame 33 = .ok (.iinc 2 1, 3) := by decide +kernel
theorem dX0_meanBlame_36 : decode cX0_meanBlame 36 = .ok (.goto (-23), 3) := by decide +kernel
theorem dX0_meanBlame_39 : decode cX0_meanBlame 39 = .ok (.iload_n 1, 1) := by decide +kernel
theorem dX0_meanBlame_40 : decode cX0_meanBlame 40 = .ok (.i2d, 1) := by decide +kernel
theorem dX0_meanBlame_41 : decode cX0_meanBlame 41 = .ok (.aload_n 0, 1) := by decide +kernel
theorem dX0_meanBlame_42 : decode cX0_meanBlame 42 = .ok (.getfield 27, 3) := by decide +kernel
theorem dX0_meanBlame_45 : decode cX0_meanBlame 45 = .ok (.i2d, 1) := by decide +kernel
theorem dX0_meanBlame_46 : decode cX0_meanBlame 46 = .ok (.ddiv, 1) := by decide +kernel
theorem dX0_meanBlame_47 : decode cX0_meanBlame 47 = .ok (.dreturn, 1) := by decide +kernel
set_option maxRecDepth 20000 in
theorem ggX0_digest_X0_things : GoodIn wsX0_digest wsX0_things := goodIn_r _ [6, 7, 166, 167, 168, 169, 170, 171, 172, 173, 174, 175] (by decide +kernel) (by decide +kernel)
set_option maxRecDepth 20000 in
theorem gX0_digest_X0_things : GoodIn wsX0_digest (wsV RX0 145 RX0 yX0_things wsX0_things) := goodIn_app (goodIn_of _ (by decide +kernel)) ggX0_digest_X0_things
set_option maxRecDepth 20000 in
theorem ggX0_digest_X0_mixed : GoodIn wsX0_digest wsX0_mixed := goodIn_r _ [10, 11] (by decide +kernel) (by decide +kernel)
set_option maxRecDepth 20000 in
theorem gX0_digest_X0_mixed : GoodIn wsX0_digest (va_wsS RX0 148 yX0_mixed wsX0_mixed) := goodIn_app (goodIn_of _ (by decide +kernel)) ggX0_digest_X0_mixed
set_option maxRecDepth 20000 in
theorem ggX0_digest_X0_nights : GoodIn wsX0_digest wsX0_nights := goodIn_r _ [15, 16, 166, 167, 168, 169, 170, 171, 172, 173, 174, 175] (by decide +kernel) (by decide +kernel)
set_option maxRecDepth 20000 in
theorem gX0_digest_X0_nights : GoodIn wsX0_digest (wsV RX0 152 RX0 yX0_nights wsX0_nights) := goodIn_app (goodIn_of _ (by decide +kernel)) ggX0_digest_X0_nights
set_option maxRecDepth 20000 in
theorem ggX0_digest_X0_smudges : GoodIn wsX0_digest wsX0_smudges := goodIn_r _ [20, 16, 21, 166, 167, 168, 169, 170, 171, 172, 173, 174, 175] (by decide +kernel) (by decide +kernel)
set_option maxRecDepth 20000 in
theorem gX0_digest_X0_smudges : GoodIn wsX0_digest (wsV RX0 155 RX0 yX0_smudges wsX0_smudges) := goodIn_app (goodIn_of _ (by decide +kernel)) ggX0_digest_X0_smudges
set_option maxRecDepth 20000 in
theorem ggX0_digest_X0_agree : GoodIn wsX0_digest wsX0_agree := goodIn_r _ [25, 26, 27, 28, 5, 29, 16, 30, 31, 32, 33, 34, 35, 36, 37, 7, 38, 39, 40, 41, 42, 166, 167, 168, 169, 170, 171, 172, 173, 174, 175] (by decide +kernel) (by decide +kernel)
set_option maxRecDepth 20000 in
theorem gX0_digest_X0_agree : GoodIn wsX0_digest (wsV RX0 119 RX0 yX0_agree wsX0_agree) := goodIn_app (goodIn_of _ (by decide +kernel)) ggX0_digest_X0_agree
set_option maxRecDepth 20000 in
theorem ggX0_digest_X0_oneIf : GoodIn wsX0_digest wsX0_oneIf := goodIn_r _ [45] (by decide +kernel) (by decide +kernel)
set_option maxRecDepth 20000 in
theorem gX0_digest_X0_oneIf : GoodIn wsX0_digest (va_wsS RX0 158 yX0_oneIf wsX0_oneIf) := goodIn_app (goodIn_of _ (by decide +kernel)) ggX0_digest_X0_oneIf
set_option maxRecDepth 20000 in
theorem ggX0_digest_X0_astronomers : GoodIn wsX0_digest wsX0_astronomers := goodIn_r _ [49, 50, 166, 167, 168, 169, 170, 171, 172, 173, 174, 175] (by decide +kernel) (by decide +kernel)
set_option maxRecDepth 20000 in
theorem gX0_digest_X0_astronomers : GoodIn wsX0_digest (wsV RX0 162 RX0 yX0_astronomers wsX0_astronomers) := goodIn_app (goodIn_of _ (by decide +kernel)) ggX0_digest_X0_astronomers
set_option maxRecDepth 20000 in
theorem ggX0_digest_X0_vote : GoodIn wsX0_digest wsX0_vote := goodIn_ca (goodIn_r _ [54, 7, 50, 55, 56, 57, 5, 58, 59, 60, 61, 62, 63, 64, 65, 66, 67, 68, 69, 70, 71, 166, 167, 168, 169, 170, 171, 172, 173, 174, 175] (by decide +kernel) (by decide +kernel)) (goodIn_sub (fun _ h => List.mem_cons_of_mem _ (List.mem_append_right _ h)) (by decide +kernel))
set_option maxRecDepth 20000 in
theorem gX0_digest_X0_vote : GoodIn wsX0_digest (wsV RX0 165 RX0 yX0_vote wsX0_vote) := goodIn_app (goodIn_of _ (by decide +kernel)) ggX0_digest_X0_vote
set_option maxRecDepth 20000 in
theorem ggX0_digest_X0_changesOfMind : GoodIn wsX0_digest wsX0_changesOfMind := goodIn_r _ [75, 76, 166, 167, 168, 169, 170, 171, 172, 173, 174, 175] (by decide +kernel) (by decide +kernel)
set_option maxRecDepth 20000 in
theorem gX0_digest_X0_changesOfMind : GoodIn wsX0_digest (wsV RX0 168 RX0 yX0_changesOfMind wsX0_changesOfMind) := goodIn_app (goodIn_of _ (by decide +kernel)) ggX0_digest_X0_changesOfMind
set_option maxRecDepth 20000 in
theorem ggX0_digest_X0_explanations : GoodIn wsX0_digest wsX0_explanations := goodIn_r _ [80, 34, 35, 36, 5, 37, 7, 38, 39, 40, 41, 42, 166, 167, 168, 169, 170, 171, 172, 173, 174, 175] (by decide +kernel) (by decide +kernel)
set_option maxRecDepth 20000 in
theorem gX0_digest_X0_explanations : GoodIn wsX0_digest (wsV RX0 129 RX0 yX0_explanations wsX0_explanations) := goodIn_app (goodIn_of _ (by decide +kernel)) ggX0_digest_X0_explanations
set_option maxRecDepth 20000 in
theorem ggX0_digest_X0_simplest : GoodIn wsX0_digest wsX0_simplest := goodIn_r _ [84, 34, 35, 36, 5, 37, 7, 38, 39, 40, 41, 42, 85, 86, 87, 88, 89, 90, 91, 166, 167, 168, 169, 170, 171, 172, 173, 174, 175] (by decide +kernel) (by decide +kernel)
set_option maxRecDepth 20000 in
theorem gX0_digest_X0_simplest : GoodIn wsX0_digest (wsV RX0 171 RX0 yX0_simplest wsX0_simplest) := goodIn_app (goodIn_of _ (by decide +kernel)) ggX0_digest_X0_simplest
set_option maxRecDepth 20000 in
theorem ggX0_digest_X0_surelyToBlame : GoodIn wsX0_digest wsX0_surelyToBlame := goodIn_r _ [95, 22, 23, 24, 5, 25, 26, 27, 28, 29, 16, 30, 31, 32, 33, 34, 35, 36, 37, 7, 38, 39, 40, 41, 42, 166, 167, 168, 169, 170, 171, 172, 173, 174, 175] (by decide +kernel) (by decide +kernel)
set_option maxRecDepth 20000 in
theorem gX0_digest_X0_surelyToBlame : GoodIn wsX0_digest (wsV RX0 174 RX0 yX0_surelyToBlame wsX0_surelyToBlame) := goodIn_app (goodIn_of _ (by decide +kernel)) ggX0_digest_X0_surelyToBlame
set_option maxRecDepth 20000 in
theorem ggX0_digest_X0_mixedWithThings : GoodIn wsX0_digest wsX0_mixedWithThings := goodIn_ca (goodIn_r _ [99, 7, 100, 101, 102, 5, 103, 16, 104, 60, 61, 62, 63, 64, 65, 66, 67, 68, 69, 70, 71, 8, 9, 10, 11, 105, 106, 107, 108, 21, 109, 110, 111, 112, 113, 114, 115, 116, 43, 44, 45, 117, 118, 119, 120, 121, 122, 123, 124, 125, 126, 127, 128, 34, 35, 36, 37, 38, 39, 40, 41, 42, 55, 56, 57, 58, 50, 59, 166, 167, 168, 169, 170, 171, 172, 173, 174, 175] (by decide +kernel) (by decide +kernel)) (goodIn_sub (fun _ h => List.mem_cons_of_mem _ (List.mem_append_right _ h)) (by decide +kernel))
set_option maxRecDepth 20000 in
theorem gX0_digest_X0_mixedWithThings : GoodIn wsX0_digest (wsV RX0 177 RX0 yX0_mixedWithThings wsX0_mixedWithThings) := goodIn_app (goodIn_of _ (by decide +kernel)) ggX0_digest_X0_mixedWithThings
set_option maxRecDepth 20000 in
theorem ggX0_digest_X0_mixedWithNights : GoodIn wsX0_digest wsX0_mixedWithNights := goodIn_ca (goodIn_r _ [132, 16, 133, 134, 135, 5, 136, 104, 137, 138, 139, 140, 64, 65, 8, 9, 10, 11, 141, 142, 143, 144, 21, 43, 44, 45, 166, 167, 168, 169, 170, 171, 172, 173, 174, 175] (by decide +kernel) (by decide +kernel)) (goodIn_sub (fun _ h => List.mem_cons_of_mem _ (List.mem_append_right _ h)) (by decide +kernel))
set_option maxRecDepth 20000 in
theorem gX0_digest_X0_mixedWithNights : GoodIn wsX0_digest (wsV RX0 181 RX0 yX0_mixedWithNights wsX0_mixedWithNights) := goodIn_app (goodIn_of _ (by decide +kernel)) ggX0_digest_X0_mixedWithNights
set_option maxRecDepth 20000 in
theorem ggX0_digest_X0_mixedWithAstronomers : GoodIn wsX0_digest wsX0_mixedWithAstronomers := goodIn_ca (goodIn_r _ [148, 50, 149, 150, 151, 5, 152, 59, 153, 154, 155, 156, 64, 65, 8, 9, 10, 11, 157, 158, 159, 160, 161, 162, 163, 164, 165, 38, 39, 40, 41, 42, 166, 167, 168, 169, 170, 171, 172, 173, 174, 175] (by decide +kernel) (by decide +kernel)) (goodIn_sub (fun _ h => List.mem_cons_of_mem _ (List.mem_append_right _ h)) (by decide +kernel))
set_option maxRecDepth 20000 in
theorem gX0_digest_X0_mixedWithAstronomers : GoodIn wsX0_digest (wsV RX0 184 RX0 yX0_mixedWithAstronomers wsX0_mixedWithAstronomers) := goodIn_app (goodIn_of _ (by decide +kernel)) ggX0_digest_X0_mixedWithAstronomers
theorem dX0_digest_0 : decode cX0_digest 0 = .ok (.ldc2_w 143, 3) := by decide +kernel
theorem dX0_digest_3 : decode cX0_digest 3 = .ok (.lstore_n 1, 1) := by decide +kernel
theorem dX0_digest_4 : decode cX0_digest 4 = .ok (.lload_n 1, 1) := by decide +kernel
theorem dX0_digest_5 : decode cX0_digest 5 = .ok (.aload_n 0, 1) := by decide +kernel
theorem dX0_digest_6 : decode cX0_digest 6 = .ok (.invokevirtual 145, 3) := by decide +kernel
theorem dX0_digest_9 : decode cX0_digest 9 = .ok (.i2l, 1) := by decide +kernel
theorem dX0_digest_10 : decode cX0_digest 10 = .ok (.invokestatic 148, 3) := by decide +kernel
theorem dX0_digest_13 : decode cX0_digest 13 = .ok (.lstore_n 1, 1) := by decide +kernel
theorem dX0_digest_14 : decode cX0_digest 14 = .ok (.lload_n 1, 1) := by decide +kernel
theorem dX0_digest_15 : decode cX0_digest 15 = .ok (.aload_n 0, 1) := by decide +kernel
theorem dX0_digest_16 : decode cX0_digest 16 = .ok (.invokevirtual 152, 3) := by decide +kernel
theorem dX0_digest_19 : decode cX0_digest 19 = .ok (.i2l, 1) := by decide +kernel
theorem dX0_digest_20 : decode cX0_digest 20 = .ok (.invokestatic 148, 3) := by decide +kernel
theorem dX0_digest_23 : decode cX0_digest 23 = .ok (.lstore_n 1, 1) := by decide +kernel
theorem dX0_digest_24 : decode cX0_digest 24 = .ok (.lload_n 1, 1) := by decide +kernel
theorem dX0_digest_25 : decode cX0_digest 25 = .ok (.aload_n 0, 1) := by decide +kernel
theorem dX0_digest_26 : decode cX0_digest 26 = .ok (.invokevirtual 155, 3) := by decide +kernel
theorem dX0_digest_29 : decode cX0_digest 29 = .ok (.i2l, 1) := by decide +kernel
theorem dX0_digest_30 : decode cX0_digest 30 = .ok (.invokestatic 148, 3) := by decide +kernel
theorem dX0_digest_33 : decode cX0_digest 33 = .ok (.lstore_n 1, 1) := by decide +kernel
theorem dX0_digest_34 : decode cX0_digest 34 = .ok (.lload_n 1, 1) := by decide +kernel
theorem dX0_digest_35 : decode cX0_digest 35 = .ok (.aload_n 0, 1) := by decide +kernel
theorem dX0_digest_36 : decode cX0_digest 36 = .ok (.invokevirtual 119, 3) := by decide +kernel
theorem dX0_digest_39 : decode cX0_digest 39 = .ok (.invokestatic 158, 3) := by decide +kernel
theorem dX0_digest_42 : decode cX0_digest 42 = .ok (.invokestatic 148, 3) := by decide +kernel
theorem dX0_digest_45 : decode cX0_digest 45 = .ok (.lstore_n 1, 1) := by decide +kernel
theorem dX0_digest_46 : decode cX0_digest 46 = .ok (.lload_n 1, 1) := by decide +kernel
theorem dX0_digest_47 : decode cX0_digest 47 = .ok (.aload_n 0, 1) := by decide +kernel
theorem dX0_digest_48 : decode cX0_digest 48 = .ok (.invokevirtual 162, 3) := by decide +kernel
theorem dX0_digest_51 : decode cX0_digest 51 = .ok (.i2l, 1) := by decide +kernel
theorem dX0_digest_52 : decode cX0_digest 52 = .ok (.invokestatic 148, 3) := by decide +kernel
theorem dX0_digest_55 : decode cX0_digest 55 = .ok (.lstore_n 1, 1) := by decide +kernel
theorem dX0_digest_56 : decode cX0_digest 56 = .ok (.lload_n 1, 1) := by decide +kernel
theorem dX0_digest_57 : decode cX0_digest 57 = .ok (.aload_n 0, 1) := by decide +kernel
theorem dX0_digest_58 : decode cX0_digest 58 = .ok (.invokevirtual 165, 3) := by decide +kernel
theorem dX0_digest_61 : decode cX0_digest 61 = .ok (.i2l, 1) := by decide +kernel
theorem dX0_digest_62 : decode cX0_digest 62 = .ok (.invokestatic 148, 3) := by decide +kernel
theorem dX0_digest_65 : decode cX0_digest 65 = .ok (.lstore_n 1, 1) := by decide +kernel
theorem dX0_digest_66 : decode cX0_digest 66 = .ok (.lload_n 1, 1) := by decide +kernel
theorem dX0_digest_67 : decode cX0_digest 67 = .ok (.aload_n 0, 1) := by decide +kernel
theorem dX0_digest_68 : decode cX0_digest 68 = .ok (.invokevirtual 168, 3) := by decide +kernel
theorem dX0_digest_71 : decode cX0_digest 71 = .ok (.i2l, 1) := by decide +kernel
theorem dX0_digest_72 : decode cX0_digest 72 = .ok (.invokestatic 148, 3) := by decide +kernel
theorem dX0_digest_75 : decode cX0_digest 75 = .ok (.lstore_n 1, 1) := by decide +kernel
theorem dX0_digest_76 : decode cX0_digest 76 = .ok (.lload_n 1, 1) := by decide +kernel
theorem dX0_digest_77 : decode cX0_digest 77 = .ok (.aload_n 0, 1) := by decide +kernel
theorem dX0_digest_78 : decode cX0_digest 78 = .ok (.invokevirtual 129, 3) := by decide +kernel
theorem dX0_digest_81 : decode cX0_digest 81 = .ok (.i2l, 1) := by decide +kernel
theorem dX0_digest_82 : decode cX0_digest 82 = .ok (.invokestatic 148, 3) := by decide +kernel
theorem dX0_digest_85 : decode cX0_digest 85 = .ok (.lstore_n 1, 1) := by decide +kernel
theorem dX0_digest_86 : decode cX0_digest 86 = .ok (.lload_n 1, 1) := by decide +kernel
theorem dX0_digest_87 : decode cX0_digest 87 = .ok (.aload_n 0, 1) := by decide +kernel
theorem dX0_digest_88 : decode cX0_digest 88 = .ok (.invokevirtual 171, 3) := by decide +kernel
theorem dX0_digest_91 : decode cX0_digest 91 = .ok (.i2l, 1) := by decide +kernel
theorem dX0_digest_92 : decode cX0_digest 92 = .ok (.invokestatic 148, 3) := by decide +kernel
theorem dX0_digest_95 : decode cX0_digest 95 = .ok (.lstore_n 1, 1) := by decide +kernel
theorem dX0_digest_96 : decode cX0_digest 96 = .ok (.lload_n 1, 1) := by decide +kernel
theorem dX0_digest_97 : decode cX0_digest 97 = .ok (.aload_n 0, 1) := by decide +kernel
theorem dX0_digest_98 : decode cX0_digest 98 = .ok (.invokevirtual 174, 3) := by decide +kernel
theorem dX0_digest_101 : decode cX0_digest 101 = .ok (.i2l, 1) := by decide +kernel
theorem dX0_digest_102 : decode cX0_digest 102 = .ok (.invokestatic 148, 3) := by decide +kernel
theorem dX0_digest_105 : decode cX0_digest 105 = .ok (.lstore_n 1, 1) := by decide +kernel
theorem dX0_digest_106 : decode cX0_digest 106 = .ok (.aload_n 0, 1) := by decide +kernel
theorem dX0_digest_107 : decode cX0_digest 107 = .ok (.lload_n 1, 1) := by decide +kernel
theorem dX0_digest_108 : decode cX0_digest 108 = .ok (.invokevirtual 177, 3) := by decide +kernel
theorem dX0_digest_111 : decode cX0_digest 111 = .ok (.lstore_n 1, 1) := by decide +kernel
theorem dX0_digest_112 : decode cX0_digest 112 = .ok (.aload_n 0, 1) := by decide +kernel
theorem dX0_digest_113 : decode cX0_digest 113 = .ok (.lload_n 1, 1) := by decide +kernel
theorem dX0_digest_114 : decode cX0_digest 114 = .ok (.invokevirtual 181, 3) := by decide +kernel
theorem dX0_digest_117 : decode cX0_digest 117 = .ok (.lstore_n 1, 1) := by decide +kernel
theorem dX0_digest_118 : decode cX0_digest 118 = .ok (.aload_n 0, 1) := by decide +kernel
theorem dX0_digest_119 : decode cX0_digest 119 = .ok (.lload_n 1, 1) := by decide +kernel
theorem dX0_digest_120 : decode cX0_digest 120 = .ok (.invokevirtual 184, 3) := by decide +kernel
theorem dX0_digest_123 : decode cX0_digest 123 = .ok (.lreturn, 1) := by decide +kernel
theorem dX0_requireThing_0 : decode cX0_requireThing 0 = .ok (.iload_n 1, 1) := by decide +kernel
theorem dX0_requireThing_1 : decode cX0_requireThing 1 = .ok (.ifCond .lt 11, 3) := by decide +kernel
theorem dX0_requireThing_4 : decode cX0_requireThing 4 = .ok (.iload_n 1, 1) := by decide +kernel
theorem dX0_requireThing_5 : decode cX0_requireThing 5 = .ok (.aload_n 0, 1) := by decide +kernel
theorem dX0_requireThing_6 : decode cX0_requireThing 6 = .ok (.getfield 9, 3) := by decide +kernel
theorem dX0_requireThing_9 : decode cX0_requireThing 9 = .ok (.if_icmp .lt 13, 3) := by decide +kernel
theorem dX0_requireThing_12 : decode cX0_requireThing 12 = .ok (.new 187, 3) := by decide +kernel
theorem dX0_requireThing_15 : decode cX0_requireThing 15 = .ok (.dup, 1) := by decide +kernel
theorem dX0_requireThing_16 : decode cX0_requireThing 16 = .ok (.ldc 189, 2) := by decide +kernel
theorem dX0_requireThing_18 : decode cX0_requireThing 18 = .ok (.invokespecial 191, 3) := by decide +kernel
theorem dX0_requireThing_21 : decode cX0_requireThing 21 = .ok (.athrow, 1) := by decide +kernel
theorem dX0_requireThing_22 : decode cX0_requireThing 22 = .ok (.return_, 1) := by decide +kernel
theorem dX0_requireNight_0 : decode cX0_requireNight 0 = .ok (.iload_n 1, 1) := by decide +kernel
theorem dX0_requireNight_1 : decode cX0_requireNight 1 = .ok (.ifCond .lt 11, 3) := by decide +kernel
theorem dX0_requireNight_4 : decode cX0_requireNight 4 = .ok (.iload_n 1, 1) := by decide +kernel
theorem dX0_requireNight_5 : decode cX0_requireNight 5 = .ok (.aload_n 0, 1) := by decide +kernel
theorem dX0_requireNight_6 : decode cX0_requireNight 6 = .ok (.getfield 13, 3) := by decide +kernel
theorem dX0_requireNight_9 : decode cX0_requireNight 9 = .ok (.if_icmp .lt 13, 3) := by decide +kernel
theorem dX0_requireNight_12 : decode cX0_requireNight 12 = .ok (.new 187, 3) := by decide +kernel
theorem dX0_requireNight_15 : decode cX0_requireNight 15 = .ok (.dup, 1) := by decide +kernel
theorem dX0_requireNight_16 : decode cX0_requireNight 16 = .ok (.ldc 192, 2) := by decide +kernel
theorem dX0_requireNight_18 : decode cX0_requireNight 18 = .ok (.invokespecial 191, 3) := by decide +kernel
theorem dX0_requireNight_21 : decode cX0_requireNight 21 = .ok (.athrow, 1) := by decide +kernel
theorem dX0_requireNight_22 : decode cX0_requireNight 22 = .ok (.return_, 1) := by decide +kernel
theorem dX0_requireAstronomer_0 : decode cX0_requireAstronomer 0 = .ok (.iload_n 1, 1) := by decide +kernel
theorem dX0_requireAstronomer_1 : decode cX0_requireAstronomer 1 = .ok (.ifCond .lt 11, 3) := by decide +kernel
theorem dX0_requireAstronomer_4 : decode cX0_requireAstronomer 4 = .ok (.iload_n 1, 1) := by decide +kernel
theorem dX0_requireAstronomer_5 : decode cX0_requireAstronomer 5 = .ok (.aload_n 0, 1) := by decide +kernel
theorem dX0_requireAstronomer_6 : decode cX0_requireAstronomer 6 = .ok (.getfield 27, 3) := by decide +kernel
theorem dX0_requireAstronomer_9 : decode cX0_requireAstronomer 9 = .ok (.if_icmp .lt 13, 3) := by decide +kernel
theorem dX0_requireAstronomer_12 : decode cX0_requireAstronomer 12 = .ok (.new 187, 3) := by decide +kernel
theorem dX0_requireAstronomer_15 : decode cX0_requireAstronomer 15 = .ok (.dup, 1) := by decide +kernel
theorem dX0_requireAstronomer_16 : decode cX0_requireAstronomer 16 = .ok (.ldc 194, 2) := by decide +kernel
theorem dX0_requireAstronomer_18 : decode cX0_requireAstronomer 18 = .ok (.invokespecial 191, 3) := by decide +kernel
theorem dX0_requireAstronomer_21 : decode cX0_requireAstronomer 21 = .ok (.athrow, 1) := by decide +kernel
theorem dX0_requireAstronomer_22 : decode cX0_requireAstronomer 22 = .ok (.return_, 1) := by decide +kernel
set_option maxRecDepth 20000 in
theorem ggX0_requireSet_X0_allThings : GoodIn wsX0_requireSet wsX0_allThings := goodIn_r _ [7, 8, 9, 10, 11, 12, 13, 14, 15, 16, 17, 18] (by decide +kernel) (by decide +kernel)
set_option maxRecDepth 20000 in
theorem gX0_requireSet_X0_allThings : GoodIn wsX0_requireSet (wsV RX0 111 RX0 yX0_allThings wsX0_allThings) := goodIn_app (goodIn_of _ (by decide +kernel)) ggX0_requireSet_X0_allThings
theorem dX0_requireSet_0 : decode cX0_requireSet 0 = .ok (.iload_n 1, 1) := by decide +kernel
theorem dX0_requireSet_1 : decode cX0_requireSet 1 = .ok (.ifCond .lt 11, 3) := by decide +kernel
theorem dX0_requireSet_4 : decode cX0_requireSet 4 = .ok (.iload_n 1, 1) := by decide +kernel
theorem dX0_requireSet_5 : decode cX0_requireSet 5 = .ok (.aload_n 0, 1) := by decide +kernel
theorem dX0_requireSet_6 : decode cX0_requireSet 6 = .ok (.invokevirtual 111, 3) := by decide +kernel
theorem dX0_requireSet_9 : decode cX0_requireSet 9 = .ok (.if_icmp .le 13, 3) := by decide +kernel
theorem dX0_requireSet_12 : decode cX0_requireSet 12 = .ok (.new 49, 3) := by decide +kernel
theorem dX0_requireSet_15 : decode cX0_requireSet 15 = .ok (.dup, 1) := by decide +kernel
theorem dX0_requireSet_16 : decode cX0_requireSet 16 = .ok (.ldc 196, 2) := by decide +kernel
theorem dX0_requireSet_18 : decode cX0_requireSet 18 = .ok (.invokespecial 53, 3) := by decide +kernel
theorem dX0_requireSet_21 : decode cX0_requireSet 21 = .ok (.athrow, 1) := by decide +kernel
theorem dX0_requireSet_22 : decode cX0_requireSet 22 = .ok (.return_, 1) := by decide +kernel
set_option maxRecDepth 20000 in
theorem ggX0_requireUsableSet_X0_allThings : GoodIn wsX0_requireUsableSet wsX0_allThings := goodIn_r _ [7, 8, 9, 10, 11, 12, 13, 14, 15, 16, 17, 18] (by decide +kernel) (by decide +kernel)
set_option maxRecDepth 20000 in
theorem gX0_requireUsableSet_X0_allThings : GoodIn wsX0_requireUsableSet (wsV RX0 111 RX0 yX0_allThings wsX0_allThings) := goodIn_app (goodIn_of _ (by decide +kernel)) ggX0_requireUsableSet_X0_allThings
theorem dX0_requireUsableSet_0 : decode cX0_requireUsableSet 0 = .ok (.iload_n 1, 1) := by decide +kernel
theorem dX0_requireUsableSet_1 : decode cX0_requireUsableSet 1 = .ok (.iconst 1, 1) := by decide +kernel
theorem dX0_requireUsableSet_2 : decode cX0_requireUsableSet 2 = .ok (.if_icmp .lt 11, 3) := by decide +kernel
theorem dX0_requireUsableSet_5 : decode cX0_requireUsableSet 5 = .ok (.iload_n 1, 1) := by decide +kernel
theorem dX0_requireUsableSet_6 : decode cX0_requireUsableSet 6 = .ok (.aload_n 0, 1) := by decide +kernel
theorem dX0_requireUsableSet_7 : decode cX0_requireUsableSet 7 = .ok (.invokevirtual 111, 3) := by decide +kernel
theorem dX0_requireUsableSet_10 : decode cX0_requireUsableSet 10 = .ok (.if_icmp .le 13, 3) := by decide +kernel
theorem dX0_requireUsableSet_13 : decode cX0_requireUsableSet 13 = .ok (.new 49, 3) := by decide +kernel
theorem dX0_requireUsableSet_16 : decode cX0_requireUsableSet 16 = .ok (.dup, 1) := by decide +kernel
theorem dX0_requireUsableSet_17 : decode cX0_requireUsableSet 17 = .ok (.ldc 198, 2) := by decide +kernel
theorem dX0_requireUsableSet_19 : decode cX0_requireUsableSet 19 = .ok (.invokespecial 53, 3) := by decide +kernel
theorem dX0_requireUsableSet_22 : decode cX0_requireUsableSet 22 = .ok (.athrow, 1) := by decide +kernel
theorem dX0_requireUsableSet_23 : decode cX0_requireUsableSet 23 = .ok (.return_, 1) := by decide +kernel
theorem dX0_requireRoomForNight_0 : decode cX0_requireRoomForNight 0 = .ok (.aload_n 0, 1) := by decide +kernel
theorem dX0_requireRoomForNight_1 : decode cX0_requireRoomForNight 1 = .ok (.getfield 13, 3) := by decide +kernel
theorem dX0_requireRoomForNight_4 : decode cX0_requireRoomForNight 4 = .ok (.bipush 40, 2) := by decide +kernel
theorem dX0_requireRoomForNight_6 : decode cX0_requireRoomForNight 6 = .ok (.if_icmp .lt 13, 3) := by decide +kernel
theorem dX0_requireRoomForNight_9 : decode cX0_requireRoomForNight 9 = .ok (.new 42, 3) := by decide +kernel
theorem dX0_requireRoomForNight_12 : decode cX0_requireRoomForNight 12 = .ok (.dup, 1) := by decide +kernel
theorem dX0_requireRoomForNight_13 : decode cX0_requireRoomForNight 13 = .ok (.ldc 200, 2) := by decide +kernel
theorem dX0_requireRoomForNight_15 : decode cX0_requireRoomForNight 15 = .ok (.invokespecial 46, 3) := by decide +kernel
theorem dX0_requireRoomForNight_18 : decode cX0_requireRoomForNight 18 = .ok (.athrow, 1) := by decide +kernel
theorem dX0_requireRoomForNight_19 : decode cX0_requireRoomForNight 19 = .ok (.return_, 1) := by decide +kernel
theorem dX0_allThings_0 : decode cX0_allThings 0 = .ok (.iconst 1, 1) := by decide +kernel
theorem dX0_allThings_1 : decode cX0_allThings 1 = .ok (.aload_n 0, 1) := by decide +kernel
theorem dX0_allThings_2 : decode cX0_allThings 2 = .ok (.getfield 9, 3) := by decide +kernel
theorem dX0_allThings_5 : decode cX0_allThings 5 = .ok (.ishl, 1) := by decide +kernel
theorem dX0_allThings_6 : decode cX0_allThings 6 = .ok (.iconst 1, 1) := by decide +kernel
theorem dX0_allThings_7 : decode cX0_allThings 7 = .ok (.isub, 1) := by decide +kernel
theorem dX0_allThings_8 : decode cX0_allThings 8 = .ok (.ireturn, 1) := by decide +kernel
theorem dX0_setOf_0 : decode cX0_setOf 0 = .ok (.iconst 1, 1) := by decide +kernel
theorem dX0_setOf_1 : decode cX0_setOf 1 = .ok (.iload_n 0, 1) := by decide +kernel
theorem dX0_setOf_2 : decode cX0_setOf 2 = .ok (.ishl, 1) := by decide +kernel
theorem dX0_setOf_3 : decode cX0_setOf 3 = .ok (.ireturn, 1) := by decide +kernel
set_option maxRecDepth 20000 in
theorem ggX0_holds_X0_setOf : GoodIn wsX0_holds wsX0_setOf := goodIn_r _ [4] (by decide +kernel) (by decide +kernel)
set_option maxRecDepth 20000 in
theorem gX0_holds_X0_setOf : GoodIn wsX0_holds (va_wsS RX0 95 yX0_setOf wsX0_setOf) := goodIn_app (goodIn_of _ (by decide +kernel)) ggX0_holds_X0_setOf
theorem dX0_holds_0 : decode cX0_holds 0 = .ok (.iload_n 0, 1) := by decide +kernel
theorem dX0_holds_1 : decode cX0_holds 1 = .ok (.iload_n 1, 1) := by decide +kernel
theorem dX0_holds_2 : decode cX0_holds 2 = .ok (.invokestatic 95, 3) := by decide +kernel
theorem dX0_holds_5 : decode cX0_holds 5 = .ok (.iand, 1) := by decide +kernel
theorem dX0_holds_6 : decode cX0_holds 6 = .ok (.ifCond .eq 7, 3) := by decide +kernel
theorem dX0_holds_9 : decode cX0_holds 9 = .ok (.iconst 1, 1) := by decide +kernel
theorem dX0_holds_10 : decode cX0_holds 10 = .ok (.goto 4, 3) := by decide +kernel
theorem dX0_holds_13 : decode cX0_holds 13 = .ok (.iconst 0, 1) := by decide +kernel
theorem dX0_holds_14 : decode cX0_holds 14 = .ok (.ireturn, 1) := by decide +kernel
theorem dX0_explains_0 : decode cX0_explains 0 = .ok (.iload_n 0, 1) := by decide +kernel
theorem dX0_explains_1 : decode cX0_explains 1 = .ok (.iload_n 1, 1) := by decide +kernel
theorem dX0_explains_2 : decode cX0_explains 2 = .ok (.iand, 1) := by decide +kernel
theorem dX0_explains_3 : decode cX0_explains 3 = .ok (.ifCond .eq 7, 3) := by decide +kernel
theorem dX0_explains_6 : decode cX0_explains 6 = .ok (.iconst 1, 1) := by decide +kernel
theorem dX0_explains_7 : decode cX0_explains 7 = .ok (.goto 4, 3) := by decide +kernel
theorem dX0_explains_10 : decode cX0_explains 10 = .ok (.iconst 0, 1) := by decide +kernel
theorem dX0_explains_11 : decode cX0_explains 11 = .ok (.iload_n 2, 1) := by decide +kernel
theorem dX0_explains_12 : decode cX0_explains 12 = .ok (.if_icmp .ne 7, 3) := by decide +kernel
theorem dX0_explains_15 : decode cX0_explains 15 = .ok (.iconst 1, 1) := by decide +kernel
theorem dX0_explains_16 : decode cX0_explains 16 = .ok (.goto 4, 3) := by decide +kernel
theorem dX0_explains_19 : decode cX0_explains 19 = .ok (.iconst 0, 1) := by decide +kernel
theorem dX0_explains_20 : decode cX0_explains 20 = .ok (.ireturn, 1) := by decide +kernel
theorem dX0_clearedThings_0 : decode cX0_clearedThings 0 = .ok (.iconst 0, 1) := by decide +kernel
theorem dX0_clearedThings_1 : decode cX0_clearedThings 1 = .ok (.istore_n 1, 1) := by decide +kernel
theorem dX0_clearedThings_2 : decode cX0_clearedThings 2 = .ok (.iconst 0, 1) := by decide +kernel
theorem dX0_clearedThings_3 : decode cX0_clearedThings 3 = .ok (.istore_n 2, 1) := by decide +kernel
theorem dX0_clearedThings_4 : decode cX0_clearedThings 4 = .ok (.iload_n 2, 1) := by decide +kernel
theorem dX0_clearedThings_5 : decode cX0_clearedThings 5 = .ok (.aload_n 0, 1) := by decide +kernel
theorem dX0_clearedThings_6 : decode cX0_clearedThings 6 = .ok (.getfield 13, 3) := by decide +kernel
theorem dX0_clearedThings_9 : decode cX0_clearedThings 9 = .ok (.if_icmp .ge 27, 3) := by decide +kernel
theorem dX0_clearedThings_12 : decode cX0_clearedThings 12 = .ok (.aload_n 0, 1) := by decide +kernel
theorem dX0_clearedThings_13 : decode cX0_clearedThings 13 = .ok (.getfield 20, 3) := by decide +kernel
theorem dX0_clearedThings_16 : decode cX0_clearedThings 16 = .ok (.iload_n 2, 1) := by decide +kernel
theorem dX0_clearedThings_17 : decode cX0_clearedThings 17 = .ok (.baload, 1) := by decide +kernel
theorem dX0_clearedThings_18 : decode cX0_clearedThings 18 = .ok (.ifCond .ne 12, 3) := by decide +kernel
theorem dX0_clearedThings_21 : decode cX0_clearedThings 21 = .ok (.iload_n 1, 1) := by decide +kernel
theorem dX0_clearedThings_22 : decode cX0_clearedThings 22 = .ok (.aload_n 0, 1) := by decide +kernel
theorem dX0_clearedThings_23 : decode cX0_clearedThings 23 = .ok (.getfield 16, 3) := by decide +kernel
theorem dX0_clearedThings_26 : decode cX0_clearedThings 26 = .ok (.iload_n 2, 1) := by decide +kernel
theorem dX0_clearedThings_27 : decode cX0_clearedThings 27 = .ok (.iaload, 1) := by decide +kernel
theorem dX0_clearedThings_28 : decode cX0_clearedThings 28 = .ok (.ior, 1) := by decide +kernel
theorem dX0_clearedThings_29 : decode cX0_clearedThings 29 = .ok (.istore_n 1, 1) := by decide +kernel
theorem dX0_clearedThings_30 : decode cX0_clearedThings 30 = .ok (.iinc 2 1, 3) := by decide +kernel
theorem dX0_clearedThings_33 : decode cX0_clearedThings 33 = .ok (.goto (-29), 3) := by decide +kernel
theorem dX0_clearedThings_36 : decode cX0_clearedThings 36 = .ok (.iload_n 1, 1) := by decide +kernel
theorem dX0_clearedThings_37 : decode cX0_clearedThings 37 = .ok (.ireturn, 1) := by decide +kernel
set_option maxRecDepth 20000 in
theorem ggX0_countMisses_X0_explains : GoodIn wsX0_countMisses wsX0_explains := goodIn_r _ [5] (by decide +kernel) (by decide +kernel)
set_option maxRecDepth 20000 in
theorem gX0_countMisses_X0_explains : GoodIn wsX0_countMisses (va_wsS RX0 139 yX0_explains wsX0_explains) := goodIn_app (goodIn_of _ (by decide +kernel)) ggX0_countMisses_X0_explains
theorem dX0_countMisses_0 : decode cX0_countMisses 0 = .ok (.iconst 0, 1) := by decide +kernel
theorem dX0_countMisses_1 : decode cX0_countMisses 1 = .ok (.istore 4, 2) := by decide +kernel
theorem dX0_countMisses_3 : decode cX0_countMisses 3 = .ok (.iload 4, 2) := by decide +kernel
theorem dX0_countMisses_5 : decode cX0_countMisses 5 = .ok (.sipush 256, 3) := by decide +kernel
theorem dX0_countMisses_8 : decode cX0_countMisses 8 = .ok (.if_icmp .ge 30, 3) := by decide +kernel
theorem dX0_countMisses_11 : decode cX0_countMisses 11 = .ok (.iload 4, 2) := by decide +kernel
theorem dX0_countMisses_13 : decode cX0_countMisses 13 = .ok (.iload_n 1, 1) := by decide +kernel
theorem dX0_countMisses_14 : decode cX0_countMisses 14 = .ok (.iload_n 2, 1) := by decide +kernel
theorem dX0_countMisses_15 : decode cX0_countMisses 15 = .ok (.invokestatic 139, 3) := by decide +kernel
theorem dX0_countMisses_18 : decode cX0_countMisses 18 = .ok (.ifCond .ne 14, 3) := by decide +kernel
theorem dX0_countMisses_21 : decode cX0_countMisses 21 = .ok (.aload_n 0, 1) := by decide +kernel
theorem dX0_countMisses_22 : decode cX0_countMisses 22 = .ok (.getfield 24, 3) := by decide +kernel
theorem dX0_countMisses_25 : decode cX0_countMisses 25 = .ok (.iload 4, 2) := by decide +kernel
theorem dX0_countMisses_27 : decode cX0_countMisses 27 = .ok (.dup2, 1) := by decide +kernel
theorem dX0_countMisses_28 : decode cX0_countMisses 28 = .ok (.iaload, 1) := by decide +kernel
theorem dX0_countMisses_29 : decode cX0_countMisses 29 = .ok (.iload_n 3, 1) := by decide +kernel
theorem dX0_countMisses_30 : decode cX0_countMisses 30 = .ok (.iadd, 1) := by decide +kernel
theorem dX0_countMisses_31 : decode cX0_countMisses 31 = .ok (.iastore, 1) := by decide +kernel
theorem dX0_countMisses_32 : decode cX0_countMisses 32 = .ok (.iinc 4 1, 3) := by decide +kernel
theorem dX0_countMisses_35 : decode cX0_countMisses 35 = .ok (.goto (-32), 3) := by decide +kernel
theorem dX0_countMisses_38 : decode cX0_countMisses 38 = .ok (.return_, 1) := by decide +kernel
theorem dX0_missesOf_0 : decode cX0_missesOf 0 = .ok (.aload_n 0, 1) := by decide +kernel
theorem dX0_missesOf_1 : decode cX0_missesOf 1 = .ok (.getfield 24, 3) := by decide +kernel
theorem dX0_missesOf_4 : decode cX0_missesOf 4 = .ok (.iload_n 1, 1) := by decide +kernel
theorem dX0_missesOf_5 : decode cX0_missesOf 5 = .ok (.sipush 255, 3) := by decide +kernel
theorem dX0_missesOf_8 : decode cX0_missesOf 8 = .ok (.iand, 1) := by decide +kernel
theorem dX0_missesOf_9 : decode cX0_missesOf 9 = .ok (.iaload, 1) := by decide +kernel
theorem dX0_missesOf_10 : decode cX0_missesOf 10 = .ok (.ireturn, 1) := by decide +kernel
set_option maxRecDepth 20000 in
theorem ggX0_explanationsMeeting_X0_allThings : GoodIn wsX0_explanationsMeeting wsX0_allThings := goodIn_r _ [5, 6, 12, 13, 14, 15, 16, 17, 18, 19, 20, 21] (by decide +kernel) (by decide +kernel)
set_option maxRecDepth 20000 in
theorem gX0_explanationsMeeting_X0_allThings : GoodIn wsX0_explanationsMeeting (wsV RX0 111 RX0 yX0_allThings wsX0_allThings) := goodIn_app (goodIn_of _ (by decide +kernel)) ggX0_explanationsMeeting_X0_allThings
set_option maxRecDepth 20000 in
theorem ggX0_explanationsMeeting_X0_missesOf : GoodIn wsX0_explanationsMeeting wsX0_missesOf := goodIn_r _ [10, 11, 12, 13, 14, 15, 16, 17, 18, 19, 20, 21] (by decide +kernel) (by decide +kernel)
set_option maxRecDepth 20000 in
theorem gX0_explanationsMeeting_X0_missesOf : GoodIn wsX0_explanationsMeeting (wsV RX0 105 RX0 yX0_missesOf wsX0_missesOf) := goodIn_app (goodIn_of _ (by decide +kernel)) ggX0_explanationsMeeting_X0_missesOf
theorem dX0_explanationsMeeting_0 : decode cX0_explanationsMeeting 0 = .ok (.iconst 0, 1) := by decide +kernel
theorem dX0_explanationsMeeting_1 : decode cX0_explanationsMeeting 1 = .ok (.istore_n 2, 1) := by decide +kernel
theorem dX0_explanationsMeeting_2 : decode cX0_explanationsMeeting 2 = .ok (.iconst 0, 1) := by decide +kernel
theorem dX0_explanationsMeeting_3 : decode cX0_explanationsMeeting 3 = .ok (.istore_n 3, 1) := by decide +kernel
theorem dX0_explanationsMeeting_4 : decode cX0_explanationsMeeting 4 = .ok (.iload_n 3, 1) := by decide +kernel
theorem dX0_explanationsMeeting_5 : decode cX0_explanationsMeeting 5 = .ok (.aload_n 0, 1) := by decide +kernel
theorem dX0_explanationsMeeting_6 : decode cX0_explanationsMeeting 6 = .ok (.invokevirtual 111, 3) := by decide +kernel
theorem dX0_explanationsMeeting_9 : decode cX0_explanationsMeeting 9 = .ok (.if_icmp .gt 26, 3) := by decide +kernel
theorem dX0_explanationsMeeting_12 : decode cX0_explanationsMeeting 12 = .ok (.iload_n 3, 1) := by decide +kernel
theorem dX0_explanationsMeeting_13 : decode cX0_explanationsMeeting 13 = .ok (.iload_n 1, 1) := by decide +kernel
theorem dX0_explanationsMeeting_14 : decode cX0_explanationsMeeting 14 = .ok (.iand, 1) := by decide +kernel
theorem dX0_explanationsMeeting_15 : decode cX0_explanationsMeeting 15 = .ok (.ifCond .eq 14, 3) := by decide +kernel
theorem dX0_explanationsMeeting_18 : decode cX0_explanationsMeeting 18 = .ok (.aload_n 0, 1) := by decide +kernel
theorem dX0_explanationsMeeting_19 : decode cX0_explanationsMeeting 19 = .ok (.iload_n 3, 1) := by decide +kernel
theorem dX0_explanationsMeeting_20 : decode cX0_explanationsMeeting 20 = .ok (.invokevirtual 105, 3) := by decide +kernel
theorem dX0_explanationsMeeting_23 : decode cX0_explanationsMeeting 23 = .ok (.ifCond .ne 6, 3) := by decide +kernel
theorem dX0_explanationsMeeting_26 : decode cX0_explanationsMeeting 26 = .ok (.iinc 2 1, 3) := by decide +kernel
theorem dX0_explanationsMeeting_29 : decode cX0_explanationsMeeting 29 = .ok (.iinc 3 1, 3) := by decide +kernel
theorem dX0_explanationsMeeting_32 : decode cX0_explanationsMeeting 32 = .ok (.goto (-28), 3) := by decide +kernel
theorem dX0_explanationsMeeting_35 : decode cX0_explanationsMeeting 35 = .ok (.iload_n 2, 1) := by decide +kernel
theorem dX0_explanationsMeeting_36 : decode cX0_explanationsMeeting 36 = .ok (.ireturn, 1) := by decide +kernel
set_option maxRecDepth 20000 in
theorem ggX0_wouldAgreeWith_X0_allThings : GoodIn wsX0_wouldAgreeWith wsX0_allThings := goodIn_r _ [5, 6, 15, 16, 17, 18, 19, 20, 21, 22, 23, 24] (by decide +kernel) (by decide +kernel)
set_option maxRecDepth 20000 in
theorem gX0_wouldAgreeWith_X0_allThings : GoodIn wsX0_wouldAgreeWith (wsV RX0 111 RX0 yX0_allThings wsX0_allThings) := goodIn_app (goodIn_of _ (by decide +kernel)) ggX0_wouldAgreeWith_X0_allThings
set_option maxRecDepth 20000 in
theorem ggX0_wouldAgreeWith_X0_missesOf : GoodIn wsX0_wouldAgreeWith wsX0_missesOf := goodIn_r _ [10, 11, 15, 16, 17, 18, 19, 20, 21, 22, 23, 24] (by decide +kernel) (by decide +kernel)
set_option maxRecDepth 20000 in
theorem gX0_wouldAgreeWith_X0_missesOf : GoodIn wsX0_wouldAgreeWith (wsV RX0 105 RX0 yX0_missesOf wsX0_missesOf) := goodIn_app (goodIn_of _ (by decide +kernel)) ggX0_wouldAgreeWith_X0_missesOf
set_option maxRecDepth 20000 in
theorem ggX0_wouldAgreeWith_X0_explains : GoodIn wsX0_wouldAgreeWith wsX0_explains := goodIn_r _ [14] (by decide +kernel) (by decide +kernel)
set_option maxRecDepth 20000 in
theorem gX0_wouldAgreeWith_X0_explains : GoodIn wsX0_wouldAgreeWith (va_wsS RX0 139 yX0_explains wsX0_explains) := goodIn_app (goodIn_of _ (by decide +kernel)) ggX0_wouldAgreeWith_X0_explains
theorem dX0_wouldAgreeWith_0 : decode cX0_wouldAgreeWith 0 = .ok (.iconst 0, 1) := by decide +kernel
theorem dX0_wouldAgreeWith_1 : decode cX0_wouldAgreeWith 1 = .ok (.istore_n 3, 1) := by decide +kernel
theorem dX0_wouldAgreeWith_2 : decode cX0_wouldAgreeWith 2 = .ok (.iload_n 3, 1) := by decide +kernel
theorem dX0_wouldAgreeWith_3 : decode cX0_wouldAgreeWith 3 = .ok (.aload_n 0, 1) := by decide +kernel
theorem dX0_wouldAgreeWith_4 : decode cX0_wouldAgreeWith 4 = .ok (.invokevirtual 111, 3) := by decide +kernel
theorem dX0_wouldAgreeWith_7 : decode cX0_wouldAgreeWith 7 = .ok (.if_icmp .gt 28, 3) := by decide +kernel
theorem dX0_wouldAgreeWith_10 : decode cX0_wouldAgreeWith 10 = .ok (.aload_n 0, 1) := by decide +kernel
theorem dX0_wouldAgreeWith_11 : decode cX0_wouldAgreeWith 11 = .ok (.iload_n 3, 1) := by decide +kernel
theorem dX0_wouldAgreeWith_12 : decode cX0_wouldAgreeWith 12 = .ok (.invokevirtual 105, 3) := by decide +kernel
theorem dX0_wouldAgreeWith_15 : decode cX0_wouldAgreeWith 15 = .ok (.ifCond .ne 14, 3) := by decide +kernel
theorem dX0_wouldAgreeWith_18 : decode cX0_wouldAgreeWith 18 = .ok (.iload_n 3, 1) := by decide +kernel
theorem dX0_wouldAgreeWith_19 : decode cX0_wouldAgreeWith 19 = .ok (.iload_n 1, 1) := by decide +kernel
theorem dX0_wouldAgreeWith_20 : decode cX0_wouldAgreeWith 20 = .ok (.iload_n 2, 1) := by decide +kernel
theorem dX0_wouldAgreeWith_21 : decode cX0_wouldAgreeWith 21 = .ok (.invokestatic 139, 3) := by decide +kernel
theorem dX0_wouldAgreeWith_24 : decode cX0_wouldAgreeWith 24 = .ok (.ifCond .eq 5, 3) := by decide +kernel
theorem dX0_wouldAgreeWith_27 : decode cX0_wouldAgreeWith 27 = .ok (.iconst 1, 1) := by decide +kernel
theorem dX0_wouldAgreeWith_28 : decode cX0_wouldAgreeWith 28 = .ok (.ireturn, 1) := by decide +kernel
theorem dX0_wouldAgreeWith_29 : decode cX0_wouldAgreeWith 29 = .ok (.iinc 3 1, 3) := by decide +kernel
theorem dX0_wouldAgreeWith_32 : decode cX0_wouldAgreeWith 32 = .ok (.goto (-30), 3) := by decide +kernel
theorem dX0_wouldAgreeWith_35 : decode cX0_wouldAgreeWith 35 = .ok (.iconst 0, 1) := by decide +kernel
theorem dX0_wouldAgreeWith_36 : decode cX0_wouldAgreeWith 36 = .ok (.ireturn, 1) := by decide +kernel
theorem dX0_letBlame_0 : decode cX0_letBlame 0 = .ok (.aload_n 0, 1) := by decide +kernel
theorem dX0_letBlame_1 : decode cX0_letBlame 1 = .ok (.getfield 30, 3) := by decide +kernel
theorem dX0_letBlame_4 : decode cX0_letBlame 4 = .ok (.iload_n 1, 1) := by decide +kernel
theorem dX0_letBlame_5 : decode cX0_letBlame 5 = .ok (.iload_n 2, 1) := by decide +kernel
theorem dX0_letBlame_6 : decode cX0_letBlame 6 = .ok (.iastore, 1) := by decide +kernel
theorem dX0_letBlame_7 : decode cX0_letBlame 7 = .ok (.aload_n 0, 1) := by decide +kernel
theorem dX0_letBlame_8 : decode cX0_letBlame 8 = .ok (.getfield 33, 3) := by decide +kernel
theorem dX0_letBlame_11 : decode cX0_letBlame 11 = .ok (.iload_n 1, 1) := by decide +kernel
theorem dX0_letBlame_12 : decode cX0_letBlame 12 = .ok (.aload_n 0, 1) := by decide +kernel
theorem dX0_letBlame_13 : decode cX0_letBlame 13 = .ok (.getfield 36, 3) := by decide +kernel
theorem dX0_letBlame_16 : decode cX0_letBlame 16 = .ok (.iload_n 1, 1) := by decide +kernel
theorem dX0_letBlame_17 : decode cX0_letBlame 17 = .ok (.iaload, 1) := by decide +kernel
theorem dX0_letBlame_18 : decode cX0_letBlame 18 = .ok (.iastore, 1) := by decide +kernel
theorem dX0_letBlame_19 : decode cX0_letBlame 19 = .ok (.return_, 1) := by decide +kernel
set_option maxRecDepth 20000 in
theorem ggX0_letAstronomersSee_X0_simplest : GoodIn wsX0_letAstronomersSee wsX0_simplest := goodIn_r _ [8, 9, 10, 11, 7, 12, 13, 14, 15, 16, 17, 18, 19, 20, 21, 22, 23, 24, 25, 34, 35, 36, 37, 38, 39, 40, 41, 42, 43] (by decide +kernel) (by decide +kernel)
set_option maxRecDepth 20000 in
theorem gX0_letAstronomersSee_X0_simplest : GoodIn wsX0_letAstronomersSee (wsV RX0 171 RX0 yX0_simplest wsX0_simplest) := goodIn_app (goodIn_of _ (by decide +kernel)) ggX0_letAstronomersSee_X0_simplest
set_option maxRecDepth 20000 in
theorem ggX0_letAstronomersSee_X0_explains : GoodIn wsX0_letAstronomersSee wsX0_explains := goodIn_r _ [28] (by decide +kernel) (by decide +kernel)
set_option maxRecDepth 20000 in
theorem gX0_letAstronomersSee_X0_explains : GoodIn wsX0_letAstronomersSee (va_wsS RX0 139 yX0_explains wsX0_explains) := goodIn_app (goodIn_of _ (by decide +kernel)) ggX0_letAstronomersSee_X0_explains
set_option maxRecDepth 20000 in
theorem ggX0_letAstronomersSee_X0_letBlame : GoodIn wsX0_letAstronomersSee wsX0_letBlame := goodIn_r _ [32, 2, 3, 33, 34, 35, 36, 37, 38, 39, 40, 41, 42, 43] (by decide +kernel) (by decide +kernel)
set_option maxRecDepth 20000 in
theorem gX0_letAstronomersSee_X0_letBlame : GoodIn wsX0_letAstronomersSee (wsV RX0 56 RX0 yX0_letBlame wsX0_letBlame) := goodIn_app (goodIn_of _ (by decide +kernel)) ggX0_letAstronomersSee_X0_letBlame
theorem dX0_letAstronomersSee_0 : decode cX0_letAstronomersSee 0 = .ok (.aload_n 0, 1) := by decide +kernel
theorem dX0_letAstronomersSee_1 : decode cX0_letAstronomersSee 1 = .ok (.invokevirtual 171, 3) := by decide +kernel
theorem dX0_letAstronomersSee_4 : decode cX0_letAstronomersSee 4 = .ok (.istore_n 3, 1) := by decide +kernel
theorem dX0_letAstronomersSee_5 : decode cX0_letAstronomersSee 5 = .ok (.iconst 0, 1) := by decide +kernel
theorem dX0_letAstronomersSee_6 : decode cX0_letAstronomersSee 6 = .ok (.istore 4, 2) := by decide +kernel
theorem dX0_letAstronomersSee_8 : decode cX0_letAstronomersSee 8 = .ok (.iconst 0, 1) := by decide +kernel
theorem dX0_letAstronomersSee_9 : decode cX0_letAstronomersSee 9 = .ok (.istore 5, 2) := by decide +kernel
theorem dX0_letAstronomersSee_11 : decode cX0_letAstronomersSee 11 = .ok (.iload 5, 2) := by decide +kernel
theorem dX0_letAstronomersSee_13 : decode cX0_letAstronomersSee 13 = .ok (.aload_n 0, 1) := by decide +kernel
theorem dX0_letAstronomersSee_14 : decode cX0_letAstronomersSee 14 = .ok (.getfield 27, 3) := by decide +kernel
theorem dX0_letAstronomersSee_17 : decode cX0_letAstronomersSee 17 = .ok (.if_icmp .ge 66, 3) := by decide +kernel
theorem dX0_letAstronomersSee_20 : decode cX0_letAstronomersSee 20 = .ok (.aload_n 0, 1) := by decide +kernel
theorem dX0_letAstronomersSee_21 : decode cX0_letAstronomersSee 21 = .ok (.getfield 30, 3) := by decide +kernel
theorem dX0_letAstronomersSee_24 : decode cX0_letAstronomersSee 24 = .ok (.iload 5, 2) := by decide +kernel
theorem dX0_letAstronomersSee_26 : decode cX0_letAstronomersSee 26 = .ok (.iaload, 1) := by decide +kernel
theorem dX0_letAstronomersSee_27 : decode cX0_letAstronomersSee 27 = .ok (.iload_n 1, 1) := by decide +kernel
theorem dX0_letAstronomersSee_28 : decode cX0_letAstronomersSee 28 = .ok (.iload_n 2, 1) := by decide +kernel
theorem dX0_letAstronomersSee_29 : decode cX0_letAstronomersSee 29 = .ok (.invokestatic 139, 3) := by decide +kernel
theorem dX0_letAstronomersSee_32 : decode cX0_letAstronomersSee 32 = .ok (.ifCond .eq 6, 3) := by decide +kernel
theorem dX0_letAstronomersSee_35 : decode cX0_letAstronomersSee 35 = .ok (.goto 42, 3) := by decide +kernel
theorem dX0_letAstronomersSee_38 : decode cX0_letAstronomersSee 38 = .ok (.aload_n 0, 1) := by decide +kernel
theorem dX0_letAstronomersSee_39 : decode cX0_letAstronomersSee 39 = .ok (.getfield 33, 3) := by decide +kernel
theorem dX0_letAstronomersSee_42 : decode cX0_letAstronomersSee 42 = .ok (.iload 5, 2) := by decide +kernel
theorem dX0_letAstronomersSee_44 : decode cX0_letAstronomersSee 44 = .ok (.iaload, 1) := by decide +kernel
theorem dX0_letAstronomersSee_45 : decode cX0_letAstronomersSee 45 = .ok (.ifCond .le 17, 3) := by decide +kernel
theorem dX0_letAstronomersSee_48 : decode cX0_letAstronomersSee 48 = .ok (.aload_n 0, 1) := by decide +kernel
theorem dX0_letAstronomersSee_49 : decode cX0_letAstronomersSee 49 = .ok (.getfield 33, 3) := by decide +kernel
theorem dX0_letAstronomersSee_52 : decode cX0_letAstronomersSee 52 = .ok (.iload 5, 2) := by decide +kernel
theorem dX0_letAstronomersSee_54 : decode cX0_letAstronomersSee 54 = .ok (.dup2, 1) := by decide +kernel
theorem dX0_letAstronomersSee_55 : decode cX0_letAstronomersSee 55 = .ok (.iaload, 1) := by decide +kernel
theorem dX0_letAstronomersSee_56 : decode cX0_letAstronomersSee 56 = .ok (.iconst 1, 1) := by decide +kernel
theorem dX0_letAstronomersSee_57 : decode cX0_letAstronomersSee 57 = .ok (.isub, 1) := by decide +kernel
theorem dX0_letAstronomersSee_58 : decode cX0_letAstronomersSee 58 = .ok (.iastore, 1) := by decide +kernel
theorem dX0_letAstronomersSee_59 : decode cX0_letAstronomersSee 59 = .ok (.goto 18, 3) := by decide +kernel
theorem dX0_letAstronomersSee_62 : decode cX0_letAstronomersSee 62 = .ok (.iload_n 3, 1) := by decide +kernel
theorem dX0_letAstronomersSee_63 : decode cX0_letAstronomersSee 63 = .ok (.iconst (-1), 1) := by decide +kernel
theorem dX0_letAstronomersSee_64 : decode cX0_letAstronomersSee 64 = .ok (.if_icmp .eq 13, 3) := by decide +kernel
theorem dX0_letAstronomersSee_67 : decode cX0_letAstronomersSee 67 = .ok (.aload_n 0, 1) := by decide +kernel
theorem dX0_letAstronomersSee_68 : decode cX0_letAstronomersSee 68 = .ok (.iload 5, 2) := by decide +kernel
theorem dX0_letAstronomersSee_70 : decode cX0_letAstronomersSee 70 = .ok (.iload_n 3, 1) := by decide +kernel
theorem dX0_letAstronomersSee_71 : decode cX0_letAstronomersSee 71 = .ok (.invokevirtual 56, 3) := by decide +kernel
theorem dX0_letAstronomersSee_74 : decode cX0_letAstronomersSee 74 = .ok (.iinc 4 1, 3) := by decide +kernel
theorem dX0_letAstronomersSee_77 : decode cX0_letAstronomersSee 77 = .ok (.iinc 5 1, 3) := by decide +kernel
theorem dX0_letAstronomersSee_80 : decode cX0_letAstronomersSee 80 = .ok (.goto (-69), 3) := by decide +kernel
theorem dX0_letAstronomersSee_83 : decode cX0_letAstronomersSee 83 = .ok (.iload 4, 2) := by decide +kernel
theorem dX0_letAstronomersSee_85 : decode cX0_letAstronomersSee 85 = .ok (.ireturn, 1) := by decide +kernel
theorem dX0_mixed_0 : decode cX0_mixed 0 = .ok (.lload_n 0, 1) := by decide +kernel
theorem dX0_mixed_1 : decode cX0_mixed 1 = .ok (.ldc2_w 202, 3) := by decide +kernel
theorem dX0_mixed_4 : decode cX0_mixed 4 = .ok (.lmul, 1) := by decide +kernel
theorem dX0_mixed_5 : decode cX0_mixed 5 = .ok (.lload_n 2, 1) := by decide +kernel
theorem dX0_mixed_6 : decode cX0_mixed 6 = .ok (.ladd, 1) := by decide +kernel
theorem dX0_mixed_7 : decode cX0_mixed 7 = .ok (.lreturn, 1) := by decide +kernel
theorem dX0_oneIf_0 : decode cX0_oneIf 0 = .ok (.iload_n 0, 1) := by decide +kernel
theorem dX0_oneIf_1 : decode cX0_oneIf 1 = .ok (.ifCond .eq 7, 3) := by decide +kernel
theorem dX0_oneIf_4 : decode cX0_oneIf 4 = .ok (.lconst 1, 1) := by decide +kernel
theorem dX0_oneIf_5 : decode cX0_oneIf 5 = .ok (.goto 4, 3) := by decide +kernel
theorem dX0_oneIf_8 : decode cX0_oneIf 8 = .ok (.lconst 0, 1) := by decide +kernel
theorem dX0_oneIf_9 : decode cX0_oneIf 9 = .ok (.lreturn, 1) := by decide +kernel
set_option maxRecDepth 20000 in
theorem ggX0_mixedWithThings_X0_nightsWith : GoodIn wsX0_mixedWithThings wsX0_nightsWith := goodIn_ca (goodIn_r _ [6, 7, 8, 9, 10, 11, 5, 12, 13, 14, 1, 15, 16, 17, 18, 19, 20, 68, 69, 70, 71, 72, 73, 74, 75, 76, 77] (by decide +kernel) (by decide +kernel)) (goodIn_sub (fun _ h => List.mem_cons_of_mem _ (List.mem_append_right _ h)) (by decide +kernel))
set_option maxRecDepth 20000 in
theorem gX0_mixedWithThings_X0_nightsWith : GoodIn wsX0_mixedWithThings (wsV RX0 204 RX0 yX0_nightsWith wsX0_nightsWith) := goodIn_app (goodIn_of _ (by decide +kernel)) ggX0_mixedWithThings_X0_nightsWith
set_option maxRecDepth 20000 in
theorem ggX0_mixedWithThings_X0_mixed : GoodIn wsX0_mixedWithThings wsX0_mixed := goodIn_r _ [23, 24] (by decide +kernel) (by decide +kernel)
set_option maxRecDepth 20000 in
theorem gX0_mixedWithThings_X0_mixed : GoodIn wsX0_mixedWithThings (va_wsS RX0 148 yX0_mixed wsX0_mixed) := goodIn_app (goodIn_of _ (by decide +kernel)) ggX0_mixedWithThings_X0_mixed
set_option maxRecDepth 20000 in
theorem ggX0_mixedWithThings_X0_smudgesWith : GoodIn wsX0_mixedWithThings wsX0_smudgesWith := goodIn_ca (goodIn_r _ [28, 7, 29, 8, 9, 10, 11, 5, 12, 13, 14, 1, 15, 16, 17, 18, 19, 20, 68, 69, 70, 71, 72, 73, 74, 75, 76, 77] (by decide +kernel) (by decide +kernel)) (goodIn_sub (fun _ h => List.mem_cons_of_mem _ (List.mem_append_right _ h)) (by decide +kernel))
set_option maxRecDepth 20000 in
theorem gX0_mixedWithThings_X0_smudgesWith : GoodIn wsX0_mixedWithThings (wsV RX0 207 RX0 yX0_smudgesWith wsX0_smudgesWith) := goodIn_app (goodIn_of _ (by decide +kernel)) ggX0_mixedWithThings_X0_smudgesWith
set_option maxRecDepth 20000 in
theorem ggX0_mixedWithThings_X0_isCleared : GoodIn wsX0_mixedWithThings wsX0_isCleared := goodIn_ca (goodIn_r _ [33, 9, 10, 11, 5, 12, 13, 14, 1, 34, 35, 36, 37, 7, 29, 8, 15, 16, 17, 18, 19, 20, 68, 69, 70, 71, 72, 73, 74, 75, 76, 77] (by decide +kernel) (by decide +kernel)) (goodIn_sub (fun _ h => List.mem_cons_of_mem _ (List.mem_append_right _ h)) (by decide +kernel))
set_option maxRecDepth 20000 in
theorem gX0_mixedWithThings_X0_isCleared : GoodIn wsX0_mixedWithThings (wsV RX0 210 RX0 yX0_isCleared wsX0_isCleared) := goodIn_app (goodIn_of _ (by decide +kernel)) ggX0_mixedWithThings_X0_isCleared
set_option maxRecDepth 20000 in
theorem ggX0_mixedWithThings_X0_oneIf : GoodIn wsX0_mixedWithThings wsX0_oneIf := goodIn_r _ [40] (by decide +kernel) (by decide +kernel)
set_option maxRecDepth 20000 in
theorem gX0_mixedWithThings_X0_oneIf : GoodIn wsX0_mixedWithThings (va_wsS RX0 158 yX0_oneIf wsX0_oneIf) := goodIn_app (goodIn_of _ (by decide +kernel)) ggX0_mixedWithThings_X0_oneIf
set_option maxRecDepth 20000 in
theorem ggX0_mixedWithThings_X0_isProved : GoodIn wsX0_mixedWithThings wsX0_isProved := goodIn_ca (goodIn_r _ [44, 7, 8, 29, 9, 10, 11, 5, 12, 13, 14, 1, 34, 35, 36, 37, 18, 19, 20, 15, 16, 17, 68, 69, 70, 71, 72, 73, 74, 75, 76, 77] (by decide +kernel) (by decide +kernel)) (goodIn_sub (fun _ h => List.mem_cons_of_mem _ (List.mem_append_right _ h)) (by decide +kernel))
set_option maxRecDepth 20000 in
theorem gX0_mixedWithThings_X0_isProved : GoodIn wsX0_mixedWithThings (wsV RX0 214 RX0 yX0_isProved wsX0_isProved) := goodIn_app (goodIn_of _ (by decide +kernel)) ggX0_mixedWithThings_X0_isProved
set_option maxRecDepth 20000 in
theorem ggX0_mixedWithThings_X0_setsWith : GoodIn wsX0_mixedWithThings wsX0_setsWith := goodIn_ca (goodIn_r _ [48, 9, 10, 11, 5, 12, 13, 14, 1, 18, 19, 20, 49, 50, 51, 52, 53, 54, 55, 56, 57, 58, 59, 60, 61, 68, 69, 70, 71, 72, 73, 74, 75, 76, 77] (by decide +kernel) (by decide +kernel)) (goodIn_sub (fun _ h => List.mem_cons_of_mem _ (List.mem_append_right _ h)) (by decide +kernel))
set_option maxRecDepth 20000 in
theorem gX0_mixedWithThings_X0_setsWith : GoodIn wsX0_mixedWithThings (wsV RX0 217 RX0 yX0_setsWith wsX0_setsWith) := goodIn_app (goodIn_of _ (by decide +kernel)) ggX0_mixedWithThings_X0_setsWith
set_option maxRecDepth 20000 in
theorem ggX0_mixedWithThings_X0_votesFor : GoodIn wsX0_mixedWithThings wsX0_votesFor := goodIn_ca (goodIn_r _ [65, 66, 67, 9, 10, 11, 5, 12, 13, 14, 1, 15, 16, 17, 18, 19, 20, 68, 69, 70, 71, 72, 73, 74, 75, 76, 77] (by decide +kernel) (by decide +kernel)) (goodIn_sub (fun _ h => List.mem_cons_of_mem _ (List.mem_append_right _ h)) (by decide +kernel))
set_option maxRecDepth 20000 in
theorem gX0_mixedWithThings_X0_votesFor : GoodIn wsX0_mixedWithThings (wsV RX0 108 RX0 yX0_votesFor wsX0_votesFor) := goodIn_app (goodIn_of _ (by decide +kernel)) ggX0_mixedWithThings_X0_votesFor
theorem dX0_mixedWithThings_0 : decode cX0_mixedWithThings 0 = .ok (.lload_n 1, 1) := by decide +kernel
theorem dX0_mixedWithThings_1 : decode cX0_mixedWithThings 1 = .ok (.lstore_n 3, 1) := by decide +kernel
theorem dX0_mixedWithThings_2 : decode cX0_mixedWithThings 2 = .ok (.iconst 0, 1) := by decide +kernel
theorem dX0_mixedWithThings_3 : decode cX0_mixedWithThings 3 = .ok (.istore 5, 2) := by decide +kernel
theorem dX0_mixedWithThings_5 : decode cX0_mixedWithThings 5 = .ok (.iload 5, 2) := by decide +kernel
theorem dX0_mixedWithThings_7 : decode cX0_mixedWithThings 7 = .ok (.aload_n 0, 1) := by decide +kernel
theorem dX0_mixedWithThings_8 : decode cX0_mixedWithThings 8 = .ok (.getfield 9, 3) := by decide +kernel
theorem dX0_mixedWithThings_11 : decode cX0_mixedWithThings 11 = .ok (.if_icmp .ge 85, 3) := by decide +kernel
theorem dX0_mixedWithThings_14 : decode cX0_mixedWithThings 14 = .ok (.lload_n 3, 1) := by decide +kernel
theorem dX0_mixedWithThings_15 : decode cX0_mixedWithThings 15 = .ok (.aload_n 0, 1) := by decide +kernel
theorem dX0_mixedWithThings_16 : decode cX0_mixedWithThings 16 = .ok (.iload 5, 2) := by decide +kernel
theorem dX0_mixedWithThings_18 : decode cX0_mixedWithThings 18 = .ok (.invokevirtual 204, 3) := by decide +kernel
theorem dX0_mixedWithThings_21 : decode cX0_mixedWithThings 21 = .ok (.i2l, 1) := by decide +kernel
theorem dX0_mixedWithThings_22 : decode cX0_mixedWithThings 22 = .ok (.invokestatic 148, 3) := by decide +kernel
theorem dX0_mixedWithThings_25 : decode cX0_mixedWithThings 25 = .ok (.lstore_n 3, 1) := by decide +kernel
theorem dX0_mixedWithThings_26 : decode cX0_mixedWithThings 26 = .ok (.lload_n 3, 1) := by decide +kernel
theorem dX0_mixedWithThings_27 : decode cX0_mixedWithThings 27 = .ok (.aload_n 0, 1) := by decide +kernel
theorem dX0_mixedWithThings_28 : decode cX0_mixedWithThings 28 = .ok (.iload 5, 2) := by decide +kernel
theorem dX0_mixedWithThings_30 : decode cX0_mixedWithThings 30 = .ok (.invokevirtual 207, 3) := by decide +kernel
theorem dX0_mixedWithThings_33 : decode cX0_mixedWithThings 33 = .ok (.i2l, 1) := by decide +kernel
theorem dX0_mixedWithThings_34 : decode cX0_mixedWithThings 34 = .ok (.invokestatic 148, 3) := by decide +kernel
theorem dX0_mixedWithThings_37 : decode cX0_mixedWithThings 37 = .ok (.lstore_n 3, 1) := by decide +kernel
theorem dX0_mixedWithThings_38 : decode cX0_mixedWithThings 38 = .ok (.lload_n 3, 1) := by decide +kernel
theorem dX0_mixedWithThings_39 : decode cX0_mixedWithThings 39 = .ok (.aload_n 0, 1) := by decide +kernel
theorem dX0_mixedWithThings_40 : decode cX0_mixedWithThings 40 = .ok (.iload 5, 2) := by decide +kernel
theorem dX0_mixedWithThings_42 : decode cX0_mixedWithThings 42 = .ok (.invokevirtual 210, 3) := by decide +kernel
theorem dX0_mixedWithThings_45 : decode cX0_mixedWithThings 45 = .ok (.invokestatic 158, 3) := by decide +kernel
theorem dX0_mixedWithThings_48 : decode cX0_mixedWithThings 48 = .ok (.invokestatic 148, 3) := by decide +kernel
theorem dX0_mixedWithThings_51 : decode cX0_mixedWithThings 51 = .ok (.lstore_n 3, 1) := by decide +kernel
theorem dX0_mixedWithThings_52 : decode cX0_mixedWithThings 52 = .ok (.lload_n 3, 1) := by decide +kernel
theorem dX0_mixedWithThings_53 : decode cX0_mixedWithThings 53 = .ok (.aload_n 0, 1) := by decide +kernel
theorem dX0_mixedWithThings_54 : decode cX0_mixedWithThings 54 = .ok (.iload 5, 2) := by decide +kernel
theorem dX0_mixedWithThings_56 : decode cX0_mixedWithThings 56 = .ok (.invokevirtual 214, 3) := by decide +kernel
theorem dX0_mixedWithThings_59 : decode cX0_mixedWithThings 59 = .ok (.invokestatic 158, 3) := by decide +kernel
theorem dX0_mixedWithThings_62 : decode cX0_mixedWithThings 62 = .ok (.invokestatic 148, 3) := by decide +kernel
theorem dX0_mixedWithThings_65 : decode cX0_mixedWithThings 65 = .ok (.lstore_n 3, 1) := by decide +kernel
theorem dX0_mixedWithThings_66 : decode cX0_mixedWithThings 66 = .ok (.lload_n 3, 1) := by decide +kernel
theorem dX0_mixedWithThings_67 : decode cX0_mixedWithThings 67 = .ok (.aload_n 0, 1) := by decide +kernel
theorem dX0_mixedWithThings_68 : decode cX0_mixedWithThings 68 = .ok (.iload 5, 2) := by decide +kernel
theorem dX0_mixedWithThings_70 : decode cX0_mixedWithThings 70 = .ok (.invokevirtual 217, 3) := by decide +kernel
theorem dX0_mixedWithThings_73 : decode cX0_mixedWithThings 73 = .ok (.i2l, 1) := by decide +kernel
theorem dX0_mixedWithThings_74 : decode cX0_mixedWithThings 74 = .ok (.invokestatic 148, 3) := by decide +kernel
theorem dX0_mixedWithThings_77 : decode cX0_mixedWithThings 77 = .ok (.lstore_n 3, 1) := by decide +kernel
theorem dX0_mixedWithThings_78 : decode cX0_mixedWithThings 78 = .ok (.lload_n 3, 1) := by decide +kernel
theorem dX0_mixedWithThings_79 : decode cX0_mixedWithThings 79 = .ok (.aload_n 0, 1) := by decide +kernel
theorem dX0_mixedWithThings_80 : decode cX0_mixedWithThings 80 = .ok (.iload 5, 2) := by decide +kernel
theorem dX0_mixedWithThings_82 : decode cX0_mixedWithThings 82 = .ok (.invokevirtual 108, 3) := by decide +kernel
theorem dX0_mixedWithThings_85 : decode cX0_mixedWithThings 85 = .ok (.i2l, 1) := by decide +kernel
theorem dX0_mixedWithThings_86 : decode cX0_mixedWithThings 86 = .ok (.invokestatic 148, 3) := by decide +kernel
theorem dX0_mixedWithThings_89 : decode cX0_mixedWithThings 89 = .ok (.lstore_n 3, 1) := by decide +kernel
theorem dX0_mixedWithThings_90 : decode cX0_mixedWithThings 90 = .ok (.iinc 5 1, 3) := by decide +kernel
theorem dX0_mixedWithThings_93 : decode cX0_mixedWithThings 93 = .ok (.goto (-88), 3) := by decide +kernel
theorem dX0_mixedWithThings_96 : decode cX0_mixedWithThings 96 = .ok (.lload_n 3, 1) := by decide +kernel
theorem dX0_mixedWithThings_97 : decode cX0_mixedWithThings 97 = .ok (.lreturn, 1) := by decide +kernel
set_option maxRecDepth 20000 in
theorem ggX0_mixedWithNights_X0_usedIn : GoodIn wsX0_mixedWithNights wsX0_usedIn := goodIn_ca (goodIn_r _ [6, 7, 8, 9, 10, 5, 11, 12, 13, 1, 26, 27, 28, 29, 30, 31, 32, 33, 34, 35] (by decide +kernel) (by decide +kernel)) (goodIn_sub (fun _ h => List.mem_cons_of_mem _ (List.mem_append_right _ h)) (by decide +kernel))
set_option maxRecDepth 20000 in
theorem gX0_mixedWithNights_X0_usedIn : GoodIn wsX0_mixedWithNights (wsV RX0 220 RX0 yX0_usedIn wsX0_usedIn) := goodIn_app (goodIn_of _ (by decide +kernel)) ggX0_mixedWithNights_X0_usedIn
set_option maxRecDepth 20000 in
theorem ggX0_mixedWithNights_X0_mixed : GoodIn wsX0_mixedWithNights wsX0_mixed := goodIn_r _ [16, 17] (by decide +kernel) (by decide +kernel)
set_option maxRecDepth 20000 in
theorem gX0_mixedWithNights_X0_mixed : GoodIn wsX0_mixedWithNights (va_wsS RX0 148 yX0_mixed wsX0_mixed) := goodIn_app (goodIn_of _ (by decide +kernel)) ggX0_mixedWithNights_X0_mixed
set_option maxRecDepth 20000 in
theorem ggX0_mixedWithNights_X0_isSmudged : GoodIn wsX0_mixedWithNights wsX0_isSmudged := goodIn_ca (goodIn_r _ [21, 22, 8, 9, 10, 5, 11, 12, 13, 1, 26, 27, 28, 29, 30, 31, 32, 33, 34, 35] (by decide +kernel) (by decide +kernel)) (goodIn_sub (fun _ h => List.mem_cons_of_mem _ (List.mem_append_right _ h)) (by decide +kernel))
set_option maxRecDepth 20000 in
theorem gX0_mixedWithNights_X0_isSmudged : GoodIn wsX0_mixedWithNights (wsV RX0 223 RX0 yX0_isSmudged wsX0_isSmudged) := goodIn_app (goodIn_of _ (by decide +kernel)) ggX0_mixedWithNights_X0_isSmudged
set_option maxRecDepth 20000 in
theorem ggX0_mixedWithNights_X0_oneIf : GoodIn wsX0_mixedWithNights wsX0_oneIf := goodIn_r _ [25] (by decide +kernel) (by decide +kernel)
set_option maxRecDepth 20000 in
theorem gX0_mixedWithNights_X0_oneIf : GoodIn wsX0_mixedWithNights (va_wsS RX0 158 yX0_oneIf wsX0_oneIf) := goodIn_app (goodIn_of _ (by decide +kernel)) ggX0_mixedWithNights_X0_oneIf
theorem dX0_mixedWithNights_0 : decode cX0_mixedWithNights 0 = .ok (.lload_n 1, 1) := by decide +kernel
theorem dX0_mixedWithNights_1 : decode cX0_mixedWithNights 1 = .ok (.lstore_n 3, 1) := by decide +kernel
theorem dX0_mixedWithNights_2 : decode cX0_mixedWithNights 2 = .ok (.iconst 0, 1) := by decide +kernel
theorem dX0_mixedWithNights_3 : decode cX0_mixedWithNights 3 = .ok (.istore 5, 2) := by decide +kernel
theorem dX0_mixedWithNights_5 : decode cX0_mixedWithNights 5 = .ok (.iload 5, 2) := by decide +kernel
theorem dX0_mixedWithNights_7 : decode cX0_mixedWithNights 7 = .ok (.aload_n 0, 1) := by decide +kernel
theorem dX0_mixedWithNights_8 : decode cX0_mixedWithNights 8 = .ok (.getfield 13, 3) := by decide +kernel
theorem dX0_mixedWithNights_11 : decode cX0_mixedWithNights 11 = .ok (.if_icmp .ge 35, 3) := by decide +kernel
theorem dX0_mixedWithNights_14 : decode cX0_mixedWithNights 14 = .ok (.lload_n 3, 1) := by decide +kernel
theorem dX0_mixedWithNights_15 : decode cX0_mixedWithNights 15 = .ok (.aload_n 0, 1) := by decide +kernel
theorem dX0_mixedWithNights_16 : decode cX0_mixedWithNights 16 = .ok (.iload 5, 2) := by decide +kernel
theorem dX0_mixedWithNights_18 : decode cX0_mixedWithNights 18 = .ok (.invokevirtual 220, 3) := by decide +kernel
theorem dX0_mixedWithNights_21 : decode cX0_mixedWithNights 21 = .ok (.i2l, 1) := by decide +kernel
theorem dX0_mixedWithNights_22 : decode cX0_mixedWithNights 22 = .ok (.invokestatic 148, 3) := by decide +kernel
theorem dX0_mixedWithNights_25 : decode cX0_mixedWithNights 25 = .ok (.lstore_n 3, 1) := by decide +kernel
theorem dX0_mixedWithNights_26 : decode cX0_mixedWithNights 26 = .ok (.lload_n 3, 1) := by decide +kernel
theorem dX0_mixedWithNights_27 : decode cX0_mixedWithNights 27 = .ok (.aload_n 0, 1) := by decide +kernel
theorem dX0_mixedWithNights_28 : decode cX0_mixedWithNights 28 = .ok (.iload 5, 2) := by decide +kernel
theorem dX0_mixedWithNights_30 : decode cX0_mixedWithNights 30 = .ok (.invokevirtual 223, 3) := by decide +kernel
theorem dX0_mixedWithNights_33 : decode cX0_mixedWithNights 33 = .ok (.invokestatic 158, 3) := by decide +kernel
theorem dX0_mixedWithNights_36 : decode cX0_mixedWithNights 36 = .ok (.invokestatic 148, 3) := by decide +kernel
theorem dX0_mixedWithNights_39 : decode cX0_mixedWithNights 39 = .ok (.lstore_n 3, 1) := by decide +kernel
theorem dX0_mixedWithNights_40 : decode cX0_mixedWithNights 40 = .ok (.iinc 5 1, 3) := by decide +kernel
theorem dX0_mixedWithNights_43 : decode cX0_mixedWithNights 43 = .ok (.goto (-38), 3) := by decide +kernel
theorem dX0_mixedWithNights_46 : decode cX0_mixedWithNights 46 = .ok (.lload_n 3, 1) := by decide +kernel
theorem dX0_mixedWithNights_47 : decode cX0_mixedWithNights 47 = .ok (.lreturn, 1) := by decide +kernel
set_option maxRecDepth 20000 in
theorem ggX0_mixedWithAstronomers_X0_blamedBy : GoodIn wsX0_mixedWithAstronomers wsX0_blamedBy := goodIn_ca (goodIn_r _ [6, 7, 8, 9, 10, 5, 11, 12, 13, 1, 32, 33, 34, 35, 36, 37, 38, 39, 40, 41] (by decide +kernel) (by decide +kernel)) (goodIn_sub (fun _ h => List.mem_cons_of_mem _ (List.mem_append_right _ h)) (by decide +kernel))
set_option maxRecDepth 20000 in
theorem gX0_mixedWithAstronomers_X0_blamedBy : GoodIn wsX0_mixedWithAstronomers (wsV RX0 226 RX0 yX0_blamedBy wsX0_blamedBy) := goodIn_app (goodIn_of _ (by decide +kernel)) ggX0_mixedWithAstronomers_X0_blamedBy
set_option maxRecDepth 20000 in
theorem ggX0_mixedWithAstronomers_X0_mixed : GoodIn wsX0_mixedWithAstronomers wsX0_mixed := goodIn_r _ [16, 17] (by decide +kernel) (by decide +kernel)
set_option maxRecDepth 20000 in
theorem gX0_mixedWithAstronomers_X0_mixed : GoodIn wsX0_mixedWithAstronomers (va_wsS RX0 148 yX0_mixed wsX0_mixed) := goodIn_app (goodIn_of _ (by decide +kernel)) ggX0_mixedWithAstronomers_X0_mixed
set_option maxRecDepth 20000 in
theorem ggX0_mixedWithAstronomers_X0_stubbornnessOf : GoodIn wsX0_mixedWithAstronomers wsX0_stubbornnessOf := goodIn_ca (goodIn_r _ [21, 22, 8, 9, 10, 5, 11, 12, 13, 1, 32, 33, 34, 35, 36, 37, 38, 39, 40, 41] (by decide +kernel) (by decide +kernel)) (goodIn_sub (fun _ h => List.mem_cons_of_mem _ (List.mem_append_right _ h)) (by decide +kernel))
set_option maxRecDepth 20000 in
theorem gX0_mixedWithAstronomers_X0_stubbornnessOf : GoodIn wsX0_mixedWithAstronomers (wsV RX0 229 RX0 yX0_stubbornnessOf wsX0_stubbornnessOf) := goodIn_app (goodIn_of _ (by decide +kernel)) ggX0_mixedWithAstronomers_X0_stubbornnessOf
set_option maxRecDepth 20000 in
theorem ggX0_mixedWithAstronomers_X0_unexplainedBy : GoodIn wsX0_mixedWithAstronomers wsX0_unexplainedBy := goodIn_ca (goodIn_r _ [26, 7, 8, 9, 10, 5, 11, 12, 13, 1, 27, 28, 29, 30, 31, 32, 33, 34, 35, 36, 37, 38, 39, 40, 41] (by decide +kernel) (by decide +kernel)) (goodIn_sub (fun _ h => List.mem_cons_of_mem _ (List.mem_append_right _ h)) (by decide +kernel))
set_option maxRecDepth 20000 in
theorem gX0_mixedWithAstronomers_X0_unexplainedBy : GoodIn wsX0_mixedWithAstronomers (wsV RX0 232 RX0 yX0_unexplainedBy wsX0_unexplainedBy) := goodIn_app (goodIn_of _ (by decide +kernel)) ggX0_mixedWithAstronomers_X0_unexplainedBy
theorem dX0_mixedWithAstronomers_0 : decode cX0_mixedWithAstronomers 0 = .ok (.lload_n 1, 1) := by decide +kernel
theorem dX0_mixedWithAstronomers_1 : decode cX0_mixedWithAstronomers 1 = .ok (.lstore_n 3, 1) := by decide +kernel
theorem dX0_mixedWithAstronomers_2 : decode cX0_mixedWithAstronomers 2 = .ok (.iconst 0, 1) := by decide +kernel
theorem dX0_mixedWithAstronomers_3 : decode cX0_mixedWithAstronomers 3 = .ok (.istore 5, 2) := by decide +kernel
theorem dX0_mixedWithAstronomers_5 : decode cX0_mixedWithAstronomers 5 = .ok (.iload 5, 2) := by decide +kernel
theorem dX0_mixedWithAstronomers_7 : decode cX0_mixedWithAstronomers 7 = .ok (.aload_n 0, 1) := by decide +kernel
theorem dX0_mixedWithAstronomers_8 : decode cX0_mixedWithAstronomers 8 = .ok (.getfield 27, 3) := by decide +kernel
theorem dX0_mixedWithAstronomers_11 : decode cX0_mixedWithAstronomers 11 = .ok (.if_icmp .ge 45, 3) := by decide +kernel
theorem dX0_mixedWithAstronomers_14 : decode cX0_mixedWithAstronomers 14 = .ok (.lload_n 3, 1) := by decide +kernel
theorem dX0_mixedWithAstronomers_15 : decode cX0_mixedWithAstronomers 15 = .ok (.aload_n 0, 1) := by decide +kernel
theorem dX0_mixedWithAstronomers_16 : decode cX0_mixedWithAstronomers 16 = .ok (.iload 5, 2) := by decide +kernel
theorem dX0_mixedWithAstronomers_18 : decode cX0_mixedWithAstronomers 18 = .ok (.invokevirtual 226, 3) := by decide +kernel
theorem dX0_mixedWithAstronomers_21 : decode cX0_mixedWithAstronomers 21 = .ok (.i2l, 1) := by decide +kernel
theorem dX0_mixedWithAstronomers_22 : decode cX0_mixedWithAstronomers 22 = .ok (.invokestatic 148, 3) := by decide +kernel
theorem dX0_mixedWithAstronomers_25 : decode cX0_mixedWithAstronomers 25 = .ok (.lstore_n 3, 1) := by decide +kernel
theorem dX0_mixedWithAstronomers_26 : decode cX0_mixedWithAstronomers 26 = .ok (.lload_n 3, 1) := by decide +kernel
theorem dX0_mixedWithAstronomers_27 : decode cX0_mixedWithAstronomers 27 = .ok (.aload_n 0, 1) := by decide +kernel
theorem dX0_mixedWithAstronomers_28 : decode cX0_mixedWithAstronomers 28 = .ok (.iload 5, 2) := by decide +kernel
theorem dX0_mixedWithAstronomers_30 : decode cX0_mixedWithAstronomers 30 = .ok (.invokevirtual 229, 3) := by decide +kernel
theorem dX0_mixedWithAstronomers_33 : decode cX0_mixedWithAstronomers 33 = .ok (.i2l, 1) := by decide +kernel
theorem dX0_mixedWithAstronomers_34 : decode cX0_mixedWithAstronomers 34 = .ok (.invokestatic 148, 3) := by decide +kernel
theorem dX0_mixedWithAstronomers_37 : decode cX0_mixedWithAstronomers 37 = .ok (.lstore_n 3, 1) := by decide +kernel
theorem dX0_mixedWithAstronomers_38 : decode cX0_mixedWithAstronomers 38 = .ok (.lload_n 3, 1) := by decide +kernel
theorem dX0_mixedWithAstronomers_39 : decode cX0_mixedWithAstronomers 39 = .ok (.aload_n 0, 1) := by decide +kernel
theorem dX0_mixedWithAstronomers_40 : decode cX0_mixedWithAstronomers 40 = .ok (.iload 5, 2) := by decide +kernel
theorem dX0_mixedWithAstronomers_42 : decode cX0_mixedWithAstronomers 42 = .ok (.invokevirtual 232, 3) := by decide +kernel
theorem dX0_mixedWithAstronomers_45 : decode cX0_mixedWithAstronomers 45 = .ok (.i2l, 1) := by decide +kernel
theorem dX0_mixedWithAstronomers_46 : decode cX0_mixedWithAstronomers 46 = .ok (.invokestatic 148, 3) := by decide +kernel
theorem dX0_mixedWithAstronomers_49 : decode cX0_mixedWithAstronomers 49 = .ok (.lstore_n 3, 1) := by decide +kernel
theorem dX0_mixedWithAstronomers_50 : decode cX0_mixedWithAstronomers 50 = .ok (.iinc 5 1, 3) := by decide +kernel
theorem dX0_mixedWithAstronomers_53 : decode cX0_mixedWithAstronomers 53 = .ok (.goto (-48), 3) := by decide +kernel
theorem dX0_mixedWithAstronomers_56 : decode cX0_mixedWithAstronomers 56 = .ok (.lload_n 3, 1) := by decide +kernel
theorem dX0_mixedWithAstronomers_57 : decode cX0_mixedWithAstronomers 57 = .ok (.lreturn, 1) := by decide +kernel
theorem dJ6_bitCount_0f7a4_0 : decode cJ6_bitCount_0f7a4 0 = .ok (.iload_n 0, 1) := by decide +kernel
theorem dJ6_bitCount_0f7a4_1 : decode cJ6_bitCount_0f7a4 1 = .ok (.iload_n 0, 1) := by decide +kernel
theorem dJ6_bitCount_0f7a4_2 : decode cJ6_bitCount_0f7a4 2 = .ok (.iconst 1, 1) := by decide +kernel
theorem dJ6_bitCount_0f7a4_3 : decode cJ6_bitCount_0f7a4 3 = .ok (.iushr, 1) := by decide +kernel
theorem dJ6_bitCount_0f7a4_4 : decode cJ6_bitCount_0f7a4 4 = .ok (.ldc_w 265, 3) := by decide +kernel
theorem dJ6_bitCount_0f7a4_7 : decode cJ6_bitCount_0f7a4 7 = .ok (.iand, 1) := by decide +kernel
theorem dJ6_bitCount_0f7a4_8 : decode cJ6_bitCount_0f7a4 8 = .ok (.isub, 1) := by decide +kernel
theorem dJ6_bitCount_0f7a4_9 : decode cJ6_bitCount_0f7a4 9 = .ok (.istore_n 0, 1) := by decide +kernel
theorem dJ6_bitCount_0f7a4_10 : decode cJ6_bitCount_0f7a4 10 = .ok (.iload_n 0, 1) := by decide +kernel
theorem dJ6_bitCount_0f7a4_11 : decode cJ6_bitCount_0f7a4 11 = .ok (.ldc_w 266, 3) := by decide +kernel
theorem dJ6_bitCount_0f7a4_14 : decode cJ6_bitCount_0f7a4 14 = .ok (.iand, 1) := by decide +kernel
theorem dJ6_bitCount_0f7a4_15 : decode cJ6_bitCount_0f7a4 15 = .ok (.iload_n 0, 1) := by decide +kernel
theorem dJ6_bitCount_0f7a4_16 : decode cJ6_bitCount_0f7a4 16 = .ok (.iconst 2, 1) := by decide +kernel
theorem dJ6_bitCount_0f7a4_17 : decode cJ6_bitCount_0f7a4 17 = .ok (.iushr, 1) := by decide +kernel
theorem dJ6_bitCount_0f7a4_18 : decode cJ6_bitCount_0f7a4 18 = .ok (.ldc_w 266, 3) := by decide +kernel
theorem dJ6_bitCount_0f7a4_21 : decode cJ6_bitCount_0f7a4 21 = .ok (.iand, 1) := by decide +kernel
theorem dJ6_bitCount_0f7a4_22 : decode cJ6_bitCount_0f7a4 22 = .ok (.iadd, 1) := by decide +kernel
theorem dJ6_bitCount_0f7a4_23 : decode cJ6_bitCount_0f7a4 23 = .ok (.istore_n 0, 1) := by decide +kernel
theorem dJ6_bitCount_0f7a4_24 : decode cJ6_bitCount_0f7a4 24 = .ok (.iload_n 0, 1) := by decide +kernel
theorem dJ6_bitCount_0f7a4_25 : decode cJ6_bitCount_0f7a4 25 = .ok (.iload_n 0, 1) := by decide +kernel
theorem dJ6_bitCount_0f7a4_26 : decode cJ6_bitCount_0f7a4 26 = .ok (.iconst 4, 1) := by decide +kernel
theorem dJ6_bitCount_0f7a4_27 : decode cJ6_bitCount_0f7a4 27 = .ok (.iushr, 1) := by decide +kernel
theorem dJ6_bitCount_0f7a4_28 : decode cJ6_bitCount_0f7a4 28 = .ok (.iadd, 1) := by decide +kernel
theorem dJ6_bitCount_0f7a4_29 : decode cJ6_bitCount_0f7a4 29 = .ok (.ldc_w 267, 3) := by decide +kernel
theorem dJ6_bitCount_0f7a4_32 : decode cJ6_bitCount_0f7a4 32 = .ok (.iand, 1) := by decide +kernel
theorem dJ6_bitCount_0f7a4_33 : decode cJ6_bitCount_0f7a4 33 = .ok (.istore_n 0, 1) := by decide +kernel
theorem dJ6_bitCount_0f7a4_34 : decode cJ6_bitCount_0f7a4 34 = .ok (.iload_n 0, 1) := by decide +kernel
theorem dJ6_bitCount_0f7a4_35 : decode cJ6_bitCount_0f7a4 35 = .ok (.iload_n 0, 1) := by decide +kernel
theorem dJ6_bitCount_0f7a4_36 : decode cJ6_bitCount_0f7a4 36 = .ok (.bipush 8, 2) := by decide +kernel
theorem dJ6_bitCount_0f7a4_38 : decode cJ6_bitCount_0f7a4 38 = .ok (.iushr, 1) := by decide +kernel
theorem dJ6_bitCount_0f7a4_39 : decode cJ6_bitCount_0f7a4 39 = .ok (.iadd, 1) := by decide +kernel
theorem dJ6_bitCount_0f7a4_40 : decode cJ6_bitCount_0f7a4 40 = .ok (.istore_n 0, 1) := by decide +kernel
theorem dJ6_bitCount_0f7a4_41 : decode cJ6_bitCount_0f7a4 41 = .ok (.iload_n 0, 1) := by decide +kernel
theorem dJ6_bitCount_0f7a4_42 : decode cJ6_bitCount_0f7a4 42 = .ok (.iload_n 0, 1) := by decide +kernel
theorem dJ6_bitCount_0f7a4_43 : decode cJ6_bitCount_0f7a4 43 = .ok (.bipush 16, 2) := by decide +kernel
theorem dJ6_bitCount_0f7a4_45 : decode cJ6_bitCount_0f7a4 45 = .ok (.iushr, 1) := by decide +kernel
theorem dJ6_bitCount_0f7a4_46 : decode cJ6_bitCount_0f7a4 46 = .ok (.iadd, 1) := by decide +kernel
theorem dJ6_bitCount_0f7a4_47 : decode cJ6_bitCount_0f7a4 47 = .ok (.istore_n 0, 1) := by decide +kernel
theorem dJ6_bitCount_0f7a4_48 : decode cJ6_bitCount_0f7a4 48 = .ok (.iload_n 0, 1) := by decide +kernel
theorem dJ6_bitCount_0f7a4_49 : decode cJ6_bitCount_0f7a4 49 = .ok (.bipush 63, 2) := by decide +kernel
theorem dJ6_bitCount_0f7a4_51 : decode cJ6_bitCount_0f7a4 51 = .ok (.iand, 1) := by decide +kernel
theorem dJ6_bitCount_0f7a4_52 : decode cJ6_bitCount_0f7a4 52 = .ok (.ireturn, 1) := by decide +kernel
theorem dJ9_max_7cf53_0 : decode cJ9_max_7cf53 0 = .ok (.iload_n 0, 1) := by decide +kernel
theorem dJ9_max_7cf53_1 : decode cJ9_max_7cf53 1 = .ok (.iload_n 1, 1) := by decide +kernel
theorem dJ9_max_7cf53_2 : decode cJ9_max_7cf53 2 = .ok (.if_icmp .lt 7, 3) := by decide +kernel
theorem dJ9_max_7cf53_5 : decode cJ9_max_7cf53 5 = .ok (.iload_n 0, 1) := by decide +kernel
theorem dJ9_max_7cf53_6 : decode cJ9_max_7cf53 6 = .ok (.goto 4, 3) := by decide +kernel
theorem dJ9_max_7cf53_9 : decode cJ9_max_7cf53 9 = .ok (.iload_n 1, 1) := by decide +kernel
theorem dJ9_max_7cf53_10 : decode cJ9_max_7cf53 10 = .ok (.ireturn, 1) := by decide +kernel
theorem dJ9_min_7cf53_0 : decode cJ9_min_7cf53 0 = .ok (.iload_n 0, 1) := by decide +kernel
theorem dJ9_min_7cf53_1 : decode cJ9_min_7cf53 1 = .ok (.iload_n 1, 1) := by decide +kernel
theorem dJ9_min_7cf53_2 : decode cJ9_min_7cf53 2 = .ok (.if_icmp .gt 7, 3) := by decide +kernel
theorem dJ9_min_7cf53_5 : decode cJ9_min_7cf53 5 = .ok (.iload_n 0, 1) := by decide +kernel
theorem dJ9_min_7cf53_6 : decode cJ9_min_7cf53 6 = .ok (.goto 4, 3) := by decide +kernel
theorem dJ9_min_7cf53_9 : decode cJ9_min_7cf53 9 = .ok (.iload_n 1, 1) := by decide +kernel
theorem dJ9_min_7cf53_10 : decode cJ9_min_7cf53 10 = .ok (.ireturn, 1) := by decide +kernel
