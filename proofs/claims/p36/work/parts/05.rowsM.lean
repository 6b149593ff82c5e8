theorem dX1_init_0 : decode cX1_init 0 = .ok (.aload_n 0, 1) := by decide +kernel
theorem dX1_init_1 : decode cX1_init 1 = .ok (.invokespecial 1, 3) := by decide +kernel
theorem dX1_init_4 : decode cX1_init 4 = .ok (.aload_n 0, 1) := by decide +kernel
theorem dX1_init_5 : decode cX1_init 5 = .ok (.iconst 0, 1) := by decide +kernel
theorem dX1_init_6 : decode cX1_init 6 = .ok (.anewarray 7, 3) := by decide +kernel
theorem dX1_init_9 : decode cX1_init 9 = .ok (.putfield 9, 3) := by decide +kernel
theorem dX1_init_12 : decode cX1_init 12 = .ok (.aload_n 0, 1) := by decide +kernel
theorem dX1_init_13 : decode cX1_init 13 = .ok (.iconst 0, 1) := by decide +kernel
theorem dX1_init_14 : decode cX1_init 14 = .ok (.anewarray 7, 3) := by decide +kernel
theorem dX1_init_17 : decode cX1_init 17 = .ok (.putfield 15, 3) := by decide +kernel
theorem dX1_init_20 : decode cX1_init 20 = .ok (.return_, 1) := by decide +kernel
theorem dX1_with_0 : decode cX1_with 0 = .ok (.aload_n 0, 1) := by decide +kernel
theorem dX1_with_1 : decode cX1_with 1 = .ok (.arraylength, 1) := by decide +kernel
theorem dX1_with_2 : decode cX1_with 2 = .ok (.iconst 1, 1) := by decide +kernel
theorem dX1_with_3 : decode cX1_with 3 = .ok (.iadd, 1) := by decide +kernel
theorem dX1_with_4 : decode cX1_with 4 = .ok (.anewarray 7, 3) := by decide +kernel
theorem dX1_with_7 : decode cX1_with 7 = .ok (.astore_n 2, 1) := by decide +kernel
theorem dX1_with_8 : decode cX1_with 8 = .ok (.iconst 0, 1) := by decide +kernel
theorem dX1_with_9 : decode cX1_with 9 = .ok (.istore_n 3, 1) := by decide +kernel
theorem dX1_with_10 : decode cX1_with 10 = .ok (.iload_n 3, 1) := by decide +kernel
theorem dX1_with_11 : decode cX1_with 11 = .ok (.aload_n 0, 1) := by decide +kernel
theorem dX1_with_12 : decode cX1_with 12 = .ok (.arraylength, 1) := by decide +kernel
theorem dX1_with_13 : decode cX1_with 13 = .ok (.if_icmp .ge 15, 3) := by decide +kernel
theorem dX1_with_16 : decode cX1_with 16 = .ok (.aload_n 2, 1) := by decide +kernel
theorem dX1_with_17 : decode cX1_with 17 = .ok (.iload_n 3, 1) := by decide +kernel
theorem dX1_with_18 : decode cX1_with 18 = .ok (.aload_n 0, 1) := by decide +kernel
theorem dX1_with_19 : decode cX1_with 19 = .ok (.iload_n 3, 1) := by decide +kernel
theorem dX1_with_20 : decode cX1_with 20 = .ok (.aaload, 1) := by decide +kernel
theorem dX1_with_21 : decode cX1_with 21 = .ok (.aastore, 1) := by decide +kernel
theorem dX1_with_22 : decode cX1_with 22 = .ok (.iinc 3 1, 3) := by decide +kernel
theorem dX1_with_25 : decode cX1_with 25 = .ok (.goto (-15), 3) := by decide +kernel
theorem dX1_with_28 : decode cX1_with 28 = .ok (.aload_n 2, 1) := by decide +kernel
theorem dX1_with_29 : decode cX1_with 29 = .ok (.aload_n 0, 1) := by decide +kernel
theorem dX1_with_30 : decode cX1_with 30 = .ok (.arraylength, 1) := by decide +kernel
theorem dX1_with_31 : decode cX1_with 31 = .ok (.aload_n 1, 1) := by decide +kernel
theorem dX1_with_32 : decode cX1_with 32 = .ok (.aastore, 1) := by decide +kernel
theorem dX1_with_33 : decode cX1_with 33 = .ok (.aload_n 2, 1) := by decide +kernel
theorem dX1_with_34 : decode cX1_with 34 = .ok (.areturn, 1) := by decide +kernel
theorem dX1_sets_0 : decode cX1_sets 0 = .ok (.iconst 1, 1) := by decide +kernel
theorem dX1_sets_1 : decode cX1_sets 1 = .ok (.istore_n 1, 1) := by decide +kernel
theorem dX1_sets_2 : decode cX1_sets 2 = .ok (.iconst 0, 1) := by decide +kernel
theorem dX1_sets_3 : decode cX1_sets 3 = .ok (.istore_n 2, 1) := by decide +kernel
theorem dX1_sets_4 : decode cX1_sets 4 = .ok (.iload_n 2, 1) := by decide +kernel
theorem dX1_sets_5 : decode cX1_sets 5 = .ok (.aload_n 0, 1) := by decide +kernel
theorem dX1_sets_6 : decode cX1_sets 6 = .ok (.getfield 18, 3) := by decide +kernel
theorem dX1_sets_9 : decode cX1_sets 9 = .ok (.if_icmp .ge 13, 3) := by decide +kernel
theorem dX1_sets_12 : decode cX1_sets 12 = .ok (.iload_n 1, 1) := by decide +kernel
theorem dX1_sets_13 : decode cX1_sets 13 = .ok (.iconst 2, 1) := by decide +kernel
theorem dX1_sets_14 : decode cX1_sets 14 = .ok (.imul, 1) := by decide +kernel
theorem dX1_sets_15 : decode cX1_sets 15 = .ok (.istore_n 1, 1) := by decide +kernel
theorem dX1_sets_16 : decode cX1_sets 16 = .ok (.iinc 2 1, 3) := by decide +kernel
theorem dX1_sets_19 : decode cX1_sets 19 = .ok (.goto (-15), 3) := by decide +kernel
theorem dX1_sets_22 : decode cX1_sets 22 = .ok (.iload_n 1, 1) := by decide +kernel
theorem dX1_sets_23 : decode cX1_sets 23 = .ok (.ireturn, 1) := by decide +kernel
theorem dX1_isIn_0 : decode cX1_isIn 0 = .ok (.iload_n 0, 1) := by decide +kernel
theorem dX1_isIn_1 : decode cX1_isIn 1 = .ok (.istore_n 2, 1) := by decide +kernel
theorem dX1_isIn_2 : decode cX1_isIn 2 = .ok (.iconst 0, 1) := by decide +kernel
theorem dX1_isIn_3 : decode cX1_isIn 3 = .ok (.istore_n 3, 1) := by decide +kernel
theorem dX1_isIn_4 : decode cX1_isIn 4 = .ok (.iload_n 3, 1) := by decide +kernel
theorem dX1_isIn_5 : decode cX1_isIn 5 = .ok (.iload_n 1, 1) := by decide +kernel
theorem dX1_isIn_6 : decode cX1_isIn 6 = .ok (.if_icmp .ge 13, 3) := by decide +kernel
theorem dX1_isIn_9 : decode cX1_isIn 9 = .ok (.iload_n 2, 1) := by decide +kernel
theorem dX1_isIn_10 : decode cX1_isIn 10 = .ok (.iconst 2, 1) := by decide +kernel
theorem dX1_isIn_11 : decode cX1_isIn 11 = .ok (.idiv, 1) := by decide +kernel
theorem dX1_isIn_12 : decode cX1_isIn 12 = .ok (.istore_n 2, 1) := by decide +kernel
theorem dX1_isIn_13 : decode cX1_isIn 13 = .ok (.iinc 3 1, 3) := by decide +kernel
theorem dX1_isIn_16 : decode cX1_isIn 16 = .ok (.goto (-12), 3) := by decide +kernel
theorem dX1_isIn_19 : decode cX1_isIn 19 = .ok (.iload_n 2, 1) := by decide +kernel
theorem dX1_isIn_20 : decode cX1_isIn 20 = .ok (.iconst 2, 1) := by decide +kernel
theorem dX1_isIn_21 : decode cX1_isIn 21 = .ok (.irem, 1) := by decide +kernel
theorem dX1_isIn_22 : decode cX1_isIn 22 = .ok (.iconst 1, 1) := by decide +kernel
theorem dX1_isIn_23 : decode cX1_isIn 23 = .ok (.if_icmp .ne 7, 3) := by decide +kernel
theorem dX1_isIn_26 : decode cX1_isIn 26 = .ok (.iconst 1, 1) := by decide +kernel
theorem dX1_isIn_27 : decode cX1_isIn 27 = .ok (.goto 4, 3) := by decide +kernel
theorem dX1_isIn_30 : decode cX1_isIn 30 = .ok (.iconst 0, 1) := by decide +kernel
theorem dX1_isIn_31 : decode cX1_isIn 31 = .ok (.ireturn, 1) := by decide +kernel
set_option maxRecDepth 20000 in
theorem ggX1_meet_X1_isIn : GoodIn wsX1_meet wsX1_isIn := goodIn_r _ [5] (by decide +kernel) (by decide +kernel)
set_option maxRecDepth 20000 in
theorem gX1_meet_X1_isIn : GoodIn wsX1_meet (va_wsS RX1 22 yX1_isIn wsX1_isIn) := goodIn_app (goodIn_of _ (by decide +kernel)) ggX1_meet_X1_isIn
theorem dX1_meet_0 : decode cX1_meet 0 = .ok (.iconst 0, 1) := by decide +kernel
theorem dX1_meet_1 : decode cX1_meet 1 = .ok (.istore_n 3, 1) := by decide +kernel
theorem dX1_meet_2 : decode cX1_meet 2 = .ok (.iload_n 3, 1) := by decide +kernel
theorem dX1_meet_3 : decode cX1_meet 3 = .ok (.aload_n 0, 1) := by decide +kernel
theorem dX1_meet_4 : decode cX1_meet 4 = .ok (.getfield 18, 3) := by decide +kernel
theorem dX1_meet_7 : decode cX1_meet 7 = .ok (.if_icmp .ge 27, 3) := by decide +kernel
theorem dX1_meet_10 : decode cX1_meet 10 = .ok (.iload_n 1, 1) := by decide +kernel
theorem dX1_meet_11 : decode cX1_meet 11 = .ok (.iload_n 3, 1) := by decide +kernel
theorem dX1_meet_12 : decode cX1_meet 12 = .ok (.invokestatic 22, 3) := by decide +kernel
theorem dX1_meet_15 : decode cX1_meet 15 = .ok (.ifCond .eq 13, 3) := by decide +kernel
theorem dX1_meet_18 : decode cX1_meet 18 = .ok (.iload_n 2, 1) := by decide +kernel
theorem dX1_meet_19 : decode cX1_meet 19 = .ok (.iload_n 3, 1) := by decide +kernel
theorem dX1_meet_20 : decode cX1_meet 20 = .ok (.invokestatic 22, 3) := by decide +kernel
theorem dX1_meet_23 : decode cX1_meet 23 = .ok (.ifCond .eq 5, 3) := by decide +kernel
theorem dX1_meet_26 : decode cX1_meet 26 = .ok (.iconst 1, 1) := by decide +kernel
theorem dX1_meet_27 : decode cX1_meet 27 = .ok (.ireturn, 1) := by decide +kernel
theorem dX1_meet_28 : decode cX1_meet 28 = .ok (.iinc 3 1, 3) := by decide +kernel
theorem dX1_meet_31 : decode cX1_meet 31 = .ok (.goto (-29), 3) := by decide +kernel
theorem dX1_meet_34 : decode cX1_meet 34 = .ok (.iconst 0, 1) := by decide +kernel
theorem dX1_meet_35 : decode cX1_meet 35 = .ok (.ireturn, 1) := by decide +kernel
set_option maxRecDepth 20000 in
theorem ggX1_unexplained_X1_meet : GoodIn wsX1_unexplained wsX1_meet := goodIn_r _ [6, 7, 8, 9, 5, 10, 11, 12, 13, 14] (by decide +kernel) (by decide +kernel)
set_option maxRecDepth 20000 in
theorem gX1_unexplained_X1_meet : GoodIn wsX1_unexplained (wsV RX1 26 RX1 yX1_meet wsX1_meet) := goodIn_app (goodIn_of _ (by decide +kernel)) ggX1_unexplained_X1_meet
theorem dX1_unexplained_0 : decode cX1_unexplained 0 = .ok (.iconst 0, 1) := by decide +kernel
theorem dX1_unexplained_1 : decode cX1_unexplained 1 = .ok (.istore_n 2, 1) := by decide +kernel
theorem dX1_unexplained_2 : decode cX1_unexplained 2 = .ok (.aload_n 0, 1) := by decide +kernel
theorem dX1_unexplained_3 : decode cX1_unexplained 3 = .ok (.getfield 9, 3) := by decide +kernel
theorem dX1_unexplained_6 : decode cX1_unexplained 6 = .ok (.astore_n 3, 1) := by decide +kernel
theorem dX1_unexplained_7 : decode cX1_unexplained 7 = .ok (.aload_n 3, 1) := by decide +kernel
theorem dX1_unexplained_8 : decode cX1_unexplained 8 = .ok (.arraylength, 1) := by decide +kernel
theorem dX1_unexplained_9 : decode cX1_unexplained 9 = .ok (.istore 4, 2) := by decide +kernel
theorem dX1_unexplained_11 : decode cX1_unexplained 11 = .ok (.iconst 0, 1) := by decide +kernel
theorem dX1_unexplained_12 : decode cX1_unexplained 12 = .ok (.istore 5, 2) := by decide +kernel
theorem dX1_unexplained_14 : decode cX1_unexplained 14 = .ok (.iload 5, 2) := by decide +kernel
theorem dX1_unexplained_16 : decode cX1_unexplained 16 = .ok (.iload 4, 2) := by decide +kernel
theorem dX1_unexplained_18 : decode cX1_unexplained 18 = .ok (.if_icmp .ge 48, 3) := by decide +kernel
theorem dX1_unexplained_21 : decode cX1_unexplained 21 = .ok (.aload_n 3, 1) := by decide +kernel
theorem dX1_unexplained_22 : decode cX1_unexplained 22 = .ok (.iload 5, 2) := by decide +kernel
theorem dX1_unexplained_24 : decode cX1_unexplained 24 = .ok (.aaload, 1) := by decide +kernel
theorem dX1_unexplained_25 : decode cX1_unexplained 25 = .ok (.astore 6, 2) := by decide +kernel
theorem dX1_unexplained_27 : decode cX1_unexplained 27 = .ok (.iload_n 2, 1) := by decide +kernel
theorem dX1_unexplained_28 : decode cX1_unexplained 28 = .ok (.aload_n 0, 1) := by decide +kernel
theorem dX1_unexplained_29 : decode cX1_unexplained 29 = .ok (.iload_n 1, 1) := by decide +kernel
theorem dX1_unexplained_30 : decode cX1_unexplained 30 = .ok (.aload 6, 2) := by decide +kernel
theorem dX1_unexplained_32 : decode cX1_unexplained 32 = .ok (.iconst 0, 1) := by decide +kernel
theorem dX1_unexplained_33 : decode cX1_unexplained 33 = .ok (.iaload, 1) := by decide +kernel
theorem dX1_unexplained_34 : decode cX1_unexplained 34 = .ok (.invokevirtual 26, 3) := by decide +kernel
theorem dX1_unexplained_37 : decode cX1_unexplained 37 = .ok (.aload 6, 2) := by decide +kernel
theorem dX1_unexplained_39 : decode cX1_unexplained 39 = .ok (.iconst 1, 1) := by decide +kernel
theorem dX1_unexplained_40 : decode cX1_unexplained 40 = .ok (.iaload, 1) := by decide +kernel
theorem dX1_unexplained_41 : decode cX1_unexplained 41 = .ok (.iconst 1, 1) := by decide +kernel
theorem dX1_unexplained_42 : decode cX1_unexplained 42 = .ok (.if_icmp .ne 7, 3) := by decide +kernel
theorem dX1_unexplained_45 : decode cX1_unexplained 45 = .ok (.iconst 1, 1) := by decide +kernel
theorem dX1_unexplained_46 : decode cX1_unexplained 46 = .ok (.goto 4, 3) := by decide +kernel
theorem dX1_unexplained_49 : decode cX1_unexplained 49 = .ok (.iconst 0, 1) := by decide +kernel
theorem dX1_unexplained_50 : decode cX1_unexplained 50 = .ok (.if_icmp .ne 7, 3) := by decide +kernel
theorem dX1_unexplained_53 : decode cX1_unexplained 53 = .ok (.iconst 0, 1) := by decide +kernel
theorem dX1_unexplained_54 : decode cX1_unexplained 54 = .ok (.goto 4, 3) := by decide +kernel
theorem dX1_unexplained_57 : decode cX1_unexplained 57 = .ok (.iconst 1, 1) := by decide +kernel
theorem dX1_unexplained_58 : decode cX1_unexplained 58 = .ok (.iadd, 1) := by decide +kernel
theorem dX1_unexplained_59 : decode cX1_unexplained 59 = .ok (.istore_n 2, 1) := by decide +kernel
theorem dX1_unexplained_60 : decode cX1_unexplained 60 = .ok (.iinc 5 1, 3) := by decide +kernel
theorem dX1_unexplained_63 : decode cX1_unexplained 63 = .ok (.goto (-49), 3) := by decide +kernel
theorem dX1_unexplained_66 : decode cX1_unexplained 66 = .ok (.iload_n 2, 1) := by decide +kernel
theorem dX1_unexplained_67 : decode cX1_unexplained 67 = .ok (.ireturn, 1) := by decide +kernel
set_option maxRecDepth 20000 in
theorem ggX1_explanations_X1_sets : GoodIn wsX1_explanations wsX1_sets := goodIn_r _ [6, 7, 20, 21, 22, 23] (by decide +kernel) (by decide +kernel)
set_option maxRecDepth 20000 in
theorem gX1_explanations_X1_sets : GoodIn wsX1_explanations (wsV RX1 29 RX1 yX1_sets wsX1_sets) := goodIn_app (goodIn_of _ (by decide +kernel)) ggX1_explanations_X1_sets
set_option maxRecDepth 20000 in
theorem ggX1_explanations_X1_unexplained : GoodIn wsX1_explanations wsX1_unexplained := goodIn_r _ [11, 12, 13, 14, 15, 5, 16, 7, 17, 18, 19, 20, 21, 22, 23] (by decide +kernel) (by decide +kernel)
set_option maxRecDepth 20000 in
theorem gX1_explanations_X1_unexplained : GoodIn wsX1_explanations (wsV RX1 33 RX1 yX1_unexplained wsX1_unexplained) := goodIn_app (goodIn_of _ (by decide +kernel)) ggX1_explanations_X1_unexplained
theorem dX1_explanations_0 : decode cX1_explanations 0 = .ok (.iconst 0, 1) := by decide +kernel
theorem dX1_explanations_1 : decode cX1_explanations 1 = .ok (.newarray .int, 2) := by decide +kernel
theorem dX1_explanations_3 : decode cX1_explanations 3 = .ok (.astore_n 1, 1) := by decide +kernel
theorem dX1_explanations_4 : decode cX1_explanations 4 = .ok (.iconst 0, 1) := by decide +kernel
theorem dX1_explanations_5 : decode cX1_explanations 5 = .ok (.istore_n 2, 1) := by decide +kernel
theorem dX1_explanations_6 : decode cX1_explanations 6 = .ok (.iload_n 2, 1) := by decide +kernel
theorem dX1_explanations_7 : decode cX1_explanations 7 = .ok (.aload_n 0, 1) := by decide +kernel
theorem dX1_explanations_8 : decode cX1_explanations 8 = .ok (.invokevirtual 29, 3) := by decide +kernel
theorem dX1_explanations_11 : decode cX1_explanations 11 = .ok (.if_icmp .ge 58, 3) := by decide +kernel
theorem dX1_explanations_14 : decode cX1_explanations 14 = .ok (.aload_n 0, 1) := by decide +kernel
theorem dX1_explanations_15 : decode cX1_explanations 15 = .ok (.iload_n 2, 1) := by decide +kernel
theorem dX1_explanations_16 : decode cX1_explanations 16 = .ok (.invokevirtual 33, 3) := by decide +kernel
theorem dX1_explanations_19 : decode cX1_explanations 19 = .ok (.ifCond .le 6, 3) := by decide +kernel
theorem dX1_explanations_22 : decode cX1_explanations 22 = .ok (.goto 41, 3) := by decide +kernel
theorem dX1_explanations_25 : decode cX1_explanations 25 = .ok (.aload_n 1, 1) := by decide +kernel
theorem dX1_explanations_26 : decode cX1_explanations 26 = .ok (.arraylength, 1) := by decide +kernel
theorem dX1_explanations_27 : decode cX1_explanations 27 = .ok (.iconst 1, 1) := by decide +kernel
theorem dX1_explanations_28 : decode cX1_explanations 28 = .ok (.iadd, 1) := by decide +kernel
theorem dX1_explanations_29 : decode cX1_explanations 29 = .ok (.newarray .int, 2) := by decide +kernel
theorem dX1_explanations_31 : decode cX1_explanations 31 = .ok (.astore_n 3, 1) := by decide +kernel
theorem dX1_explanations_32 : decode cX1_explanations 32 = .ok (.iconst 0, 1) := by decide +kernel
theorem dX1_explanations_33 : decode cX1_explanations 33 = .ok (.istore 4, 2) := by decide +kernel
theorem dX1_explanations_35 : decode cX1_explanations 35 = .ok (.iload 4, 2) := by decide +kernel
theorem dX1_explanations_37 : decode cX1_explanations 37 = .ok (.aload_n 1, 1) := by decide +kernel
theorem dX1_explanations_38 : decode cX1_explanations 38 = .ok (.arraylength, 1) := by decide +kernel
theorem dX1_explanations_39 : decode cX1_explanations 39 = .ok (.if_icmp .ge 17, 3) := by decide +kernel
theorem dX1_explanations_42 : decode cX1_explanations 42 = .ok (.aload_n 3, 1) := by decide +kernel
theorem dX1_explanations_43 : decode cX1_explanations 43 = .ok (.iload 4, 2) := by decide +kernel
theorem dX1_explanations_45 : decode cX1_explanations 45 = .ok (.aload_n 1, 1) := by decide +kernel
theorem dX1_explanations_46 : decode cX1_explanations 46 = .ok (.iload 4, 2) := by decide +kernel
theorem dX1_explanations_48 : decode cX1_explanations 48 = .ok (.iaload, 1) := by decide +kernel
theorem dX1_explanations_49 : decode cX1_explanations 49 = .ok (.iastore, 1) := by decide +kernel
theorem dX1_explanations_50 : decode cX1_explanations 50 = .ok (.iinc 4 1, 3) := by decide +kernel
theorem dX1_explanations_53 : decode cX1_explanations 53 = .ok (.goto (-18), 3) := by decide +kernel
theorem dX1_explanations_56 : decode cX1_explanations 56 = .ok (.aload_n 3, 1) := by decide +kernel
theorem dX1_explanations_57 : decode cX1_explanations 57 = .ok (.aload_n 1, 1) := by decide +kernel
theorem dX1_explanations_58 : decode cX1_explanations 58 = .ok (.arraylength, 1) := by decide +kernel
theorem dX1_explanations_59 : decode cX1_explanations 59 = .ok (.iload_n 2, 1) := by decide +kernel
theorem dX1_explanations_60 : decode cX1_explanations 60 = .ok (.iastore, 1) := by decide +kernel
theorem dX1_explanations_61 : decode cX1_explanations 61 = .ok (.aload_n 3, 1) := by decide +kernel
theorem dX1_explanations_62 : decode cX1_explanations 62 = .ok (.astore_n 1, 1) := by decide +kernel
theorem dX1_explanations_63 : decode cX1_explanations 63 = .ok (.iinc 2 1, 3) := by decide +kernel
theorem dX1_explanations_66 : decode cX1_explanations 66 = .ok (.goto (-60), 3) := by decide +kernel
theorem dX1_explanations_69 : decode cX1_explanations 69 = .ok (.aload_n 1, 1) := by decide +kernel
theorem dX1_explanations_70 : decode cX1_explanations 70 = .ok (.areturn, 1) := by decide +kernel
set_option maxRecDepth 20000 in
theorem ggX1_size_X1_isIn : GoodIn wsX1_size wsX1_isIn := goodIn_r _ [5] (by decide +kernel) (by decide +kernel)
set_option maxRecDepth 20000 in
theorem gX1_size_X1_isIn : GoodIn wsX1_size (va_wsS RX1 22 yX1_isIn wsX1_isIn) := goodIn_app (goodIn_of _ (by decide +kernel)) ggX1_size_X1_isIn
theorem dX1_size_0 : decode cX1_size 0 = .ok (.iconst 0, 1) := by decide +kernel
theorem dX1_size_1 : decode cX1_size 1 = .ok (.istore_n 2, 1) := by decide +kernel
theorem dX1_size_2 : decode cX1_size 2 = .ok (.iconst 0, 1) := by decide +kernel
theorem dX1_size_3 : decode cX1_size 3 = .ok (.istore_n 3, 1) := by decide +kernel
theorem dX1_size_4 : decode cX1_size 4 = .ok (.iload_n 3, 1) := by decide +kernel
theorem dX1_size_5 : decode cX1_size 5 = .ok (.aload_n 0, 1) := by decide +kernel
theorem dX1_size_6 : decode cX1_size 6 = .ok (.getfield 18, 3) := by decide +kernel
theorem dX1_size_9 : decode cX1_size 9 = .ok (.if_icmp .ge 25, 3) := by decide +kernel
theorem dX1_size_12 : decode cX1_size 12 = .ok (.iload_n 2, 1) := by decide +kernel
theorem dX1_size_13 : decode cX1_size 13 = .ok (.iload_n 1, 1) := by decide +kernel
theorem dX1_size_14 : decode cX1_size 14 = .ok (.iload_n 3, 1) := by decide +kernel
theorem dX1_size_15 : decode cX1_size 15 = .ok (.invokestatic 22, 3) := by decide +kernel
theorem dX1_size_18 : decode cX1_size 18 = .ok (.ifCond .eq 7, 3) := by decide +kernel
theorem dX1_size_21 : decode cX1_size 21 = .ok (.iconst 1, 1) := by decide +kernel
theorem dX1_size_22 : decode cX1_size 22 = .ok (.goto 4, 3) := by decide +kernel
theorem dX1_size_25 : decode cX1_size 25 = .ok (.iconst 0, 1) := by decide +kernel
theorem dX1_size_26 : decode cX1_size 26 = .ok (.iadd, 1) := by decide +kernel
theorem dX1_size_27 : decode cX1_size 27 = .ok (.istore_n 2, 1) := by decide +kernel
theorem dX1_size_28 : decode cX1_size 28 = .ok (.iinc 3 1, 3) := by decide +kernel
theorem dX1_size_31 : decode cX1_size 31 = .ok (.goto (-27), 3) := by decide +kernel
theorem dX1_size_34 : decode cX1_size 34 = .ok (.iload_n 2, 1) := by decide +kernel
theorem dX1_size_35 : decode cX1_size 35 = .ok (.ireturn, 1) := by decide +kernel
set_option maxRecDepth 20000 in
theorem ggX1_simplest_X1_size : GoodIn wsX1_simplest wsX1_size := goodIn_r _ [5, 6, 7, 8, 4, 9, 10, 11, 12, 13] (by decide +kernel) (by decide +kernel)
set_option maxRecDepth 20000 in
theorem gX1_simplest_X1_size : GoodIn wsX1_simplest (wsV RX1 37 RX1 yX1_size wsX1_size) := goodIn_app (goodIn_of _ (by decide +kernel)) ggX1_simplest_X1_size
theorem dX1_simplest_0 : decode cX1_simplest 0 = .ok (.iconst (-1), 1) := by decide +kernel
theorem dX1_simplest_1 : decode cX1_simplest 1 = .ok (.istore_n 2, 1) := by decide +kernel
theorem dX1_simplest_2 : decode cX1_simplest 2 = .ok (.aload_n 1, 1) := by decide +kernel
theorem dX1_simplest_3 : decode cX1_simplest 3 = .ok (.arraylength, 1) := by decide +kernel
theorem dX1_simplest_4 : decode cX1_simplest 4 = .ok (.iconst 1, 1) := by decide +kernel
theorem dX1_simplest_5 : decode cX1_simplest 5 = .ok (.isub, 1) := by decide +kernel
theorem dX1_simplest_6 : decode cX1_simplest 6 = .ok (.istore_n 3, 1) := by decide +kernel
theorem dX1_simplest_7 : decode cX1_simplest 7 = .ok (.iload_n 3, 1) := by decide +kernel
theorem dX1_simplest_8 : decode cX1_simplest 8 = .ok (.ifCond .lt 32, 3) := by decide +kernel
theorem dX1_simplest_11 : decode cX1_simplest 11 = .ok (.iload_n 2, 1) := by decide +kernel
theorem dX1_simplest_12 : decode cX1_simplest 12 = .ok (.ifCond .lt 18, 3) := by decide +kernel
theorem dX1_simplest_15 : decode cX1_simplest 15 = .ok (.aload_n 0, 1) := by decide +kernel
theorem dX1_simplest_16 : decode cX1_simplest 16 = .ok (.aload_n 1, 1) := by decide +kernel
theorem dX1_simplest_17 : decode cX1_simplest 17 = .ok (.iload_n 3, 1) := by decide +kernel
theorem dX1_simplest_18 : decode cX1_simplest 18 = .ok (.iaload, 1) := by decide +kernel
theorem dX1_simplest_19 : decode cX1_simplest 19 = .ok (.invokevirtual 37, 3) := by decide +kernel
theorem dX1_simplest_22 : decode cX1_simplest 22 = .ok (.aload_n 0, 1) := by decide +kernel
theorem dX1_simplest_23 : decode cX1_simplest 23 = .ok (.iload_n 2, 1) := by decide +kernel
theorem dX1_simplest_24 : decode cX1_simplest 24 = .ok (.invokevirtual 37, 3) := by decide +kernel
theorem dX1_simplest_27 : decode cX1_simplest 27 = .ok (.if_icmp .gt 7, 3) := by decide +kernel
theorem dX1_simplest_30 : decode cX1_simplest 30 = .ok (.aload_n 1, 1) := by decide +kernel
theorem dX1_simplest_31 : decode cX1_simplest 31 = .ok (.iload_n 3, 1) := by decide +kernel
theorem dX1_simplest_32 : decode cX1_simplest 32 = .ok (.iaload, 1) := by decide +kernel
theorem dX1_simplest_33 : decode cX1_simplest 33 = .ok (.istore_n 2, 1) := by decide +kernel
theorem dX1_simplest_34 : decode cX1_simplest 34 = .ok (.iinc 3 (-1), 3) := by decide +kernel
theorem dX1_simplest_37 : decode cX1_simplest 37 = .ok (.goto (-30), 3) := by decide +kernel
theorem dX1_simplest_40 : decode cX1_simplest 40 = .ok (.iload_n 2, 1) := by decide +kernel
theorem dX1_simplest_41 : decode cX1_simplest 41 = .ok (.ireturn, 1) := by decide +kernel
set_option maxRecDepth 20000 in
theorem ggX1_isCleared_X1_isIn : GoodIn wsX1_isCleared wsX1_isIn := goodIn_r _ [5] (by decide +kernel) (by decide +kernel)
set_option maxRecDepth 20000 in
theorem gX1_isCleared_X1_isIn : GoodIn wsX1_isCleared (va_wsS RX1 22 yX1_isIn wsX1_isIn) := goodIn_app (goodIn_of _ (by decide +kernel)) ggX1_isCleared_X1_isIn
theorem dX1_isCleared_0 : decode cX1_isCleared 0 = .ok (.aload_n 0, 1) := by decide +kernel
theorem dX1_isCleared_1 : decode cX1_isCleared 1 = .ok (.getfield 9, 3) := by decide +kernel
theorem dX1_isCleared_4 : decode cX1_isCleared 4 = .ok (.astore_n 2, 1) := by decide +kernel
theorem dX1_isCleared_5 : decode cX1_isCleared 5 = .ok (.aload_n 2, 1) := by decide +kernel
theorem dX1_isCleared_6 : decode cX1_isCleared 6 = .ok (.arraylength, 1) := by decide +kernel
theorem dX1_isCleared_7 : decode cX1_isCleared 7 = .ok (.istore_n 3, 1) := by decide +kernel
theorem dX1_isCleared_8 : decode cX1_isCleared 8 = .ok (.iconst 0, 1) := by decide +kernel
theorem dX1_isCleared_9 : decode cX1_isCleared 9 = .ok (.istore 4, 2) := by decide +kernel
theorem dX1_isCleared_11 : decode cX1_isCleared 11 = .ok (.iload 4, 2) := by decide +kernel
theorem dX1_isCleared_13 : decode cX1_isCleared 13 = .ok (.iload_n 3, 1) := by decide +kernel
theorem dX1_isCleared_14 : decode cX1_isCleared 14 = .ok (.if_icmp .ge 35, 3) := by decide +kernel
theorem dX1_isCleared_17 : decode cX1_isCleared 17 = .ok (.aload_n 2, 1) := by decide +kernel
theorem dX1_isCleared_18 : decode cX1_isCleared 18 = .ok (.iload 4, 2) := by decide +kernel
theorem dX1_isCleared_20 : decode cX1_isCleared 20 = .ok (.aaload, 1) := by decide +kernel
theorem dX1_isCleared_21 : decode cX1_isCleared 21 = .ok (.astore 5, 2) := by decide +kernel
theorem dX1_isCleared_23 : decode cX1_isCleared 23 = .ok (.aload 5, 2) := by decide +kernel
theorem dX1_isCleared_25 : decode cX1_isCleared 25 = .ok (.iconst 1, 1) := by decide +kernel
theorem dX1_isCleared_26 : decode cX1_isCleared 26 = .ok (.iaload, 1) := by decide +kernel
theorem dX1_isCleared_27 : decode cX1_isCleared 27 = .ok (.ifCond .ne 16, 3) := by decide +kernel
theorem dX1_isCleared_30 : decode cX1_isCleared 30 = .ok (.aload 5, 2) := by decide +kernel
theorem dX1_isCleared_32 : decode cX1_isCleared 32 = .ok (.iconst 0, 1) := by decide +kernel
theorem dX1_isCleared_33 : decode cX1_isCleared 33 = .ok (.iaload, 1) := by decide +kernel
theorem dX1_isCleared_34 : decode cX1_isCleared 34 = .ok (.iload_n 1, 1) := by decide +kernel
theorem dX1_isCleared_35 : decode cX1_isCleared 35 = .ok (.invokestatic 22, 3) := by decide +kernel
theorem dX1_isCleared_38 : decode cX1_isCleared 38 = .ok (.ifCond .eq 5, 3) := by decide +kernel
theorem dX1_isCleared_41 : decode cX1_isCleared 41 = .ok (.iconst 1, 1) := by decide +kernel
theorem dX1_isCleared_42 : decode cX1_isCleared 42 = .ok (.ireturn, 1) := by decide +kernel
theorem dX1_isCleared_43 : decode cX1_isCleared 43 = .ok (.iinc 4 1, 3) := by decide +kernel
theorem dX1_isCleared_46 : decode cX1_isCleared 46 = .ok (.goto (-35), 3) := by decide +kernel
theorem dX1_isCleared_49 : decode cX1_isCleared 49 = .ok (.iconst 0, 1) := by decide +kernel
theorem dX1_isCleared_50 : decode cX1_isCleared 50 = .ok (.ireturn, 1) := by decide +kernel
set_option maxRecDepth 20000 in
theorem ggX1_isProved_X1_isIn : GoodIn wsX1_isProved wsX1_isIn := goodIn_r _ [6] (by decide +kernel) (by decide +kernel)
set_option maxRecDepth 20000 in
theorem gX1_isProved_X1_isIn : GoodIn wsX1_isProved (va_wsS RX1 22 yX1_isIn wsX1_isIn) := goodIn_app (goodIn_of _ (by decide +kernel)) ggX1_isProved_X1_isIn
set_option maxRecDepth 20000 in
theorem ggX1_isProved_X1_isCleared : GoodIn wsX1_isProved wsX1_isCleared := goodIn_r _ [10, 1, 3, 4, 5, 6, 11, 12, 13, 14] (by decide +kernel) (by decide +kernel)
set_option maxRecDepth 20000 in
theorem gX1_isProved_X1_isCleared : GoodIn wsX1_isProved (wsV RX1 40 RX1 yX1_isCleared wsX1_isCleared) := goodIn_app (goodIn_of _ (by decide +kernel)) ggX1_isProved_X1_isCleared
theorem dX1_isProved_0 : decode cX1_isProved 0 = .ok (.aload_n 0, 1) := by decide +kernel
theorem dX1_isProved_1 : decode cX1_isProved 1 = .ok (.getfield 9, 3) := by decide +kernel
theorem dX1_isProved_4 : decode cX1_isProved 4 = .ok (.astore_n 2, 1) := by decide +kernel
theorem dX1_isProved_5 : decode cX1_isProved 5 = .ok (.aload_n 2, 1) := by decide +kernel
theorem dX1_isProved_6 : decode cX1_isProved 6 = .ok (.arraylength, 1) := by decide +kernel
theorem dX1_isProved_7 : decode cX1_isProved 7 = .ok (.istore_n 3, 1) := by decide +kernel
theorem dX1_isProved_8 : decode cX1_isProved 8 = .ok (.iconst 0, 1) := by decide +kernel
theorem dX1_isProved_9 : decode cX1_isProved 9 = .ok (.istore 4, 2) := by decide +kernel
theorem dX1_isProved_11 : decode cX1_isProved 11 = .ok (.iload 4, 2) := by decide +kernel
theorem dX1_isProved_13 : decode cX1_isProved 13 = .ok (.iload_n 3, 1) := by decide +kernel
theorem dX1_isProved_14 : decode cX1_isProved 14 = .ok (.if_icmp .ge 101, 3) := by decide +kernel
theorem dX1_isProved_17 : decode cX1_isProved 17 = .ok (.aload_n 2, 1) := by decide +kernel
theorem dX1_isProved_18 : decode cX1_isProved 18 = .ok (.iload 4, 2) := by decide +kernel
theorem dX1_isProved_20 : decode cX1_isProved 20 = .ok (.aaload, 1) := by decide +kernel
theorem dX1_isProved_21 : decode cX1_isProved 21 = .ok (.astore 5, 2) := by decide +kernel
theorem dX1_isProved_23 : decode cX1_isProved 23 = .ok (.aload 5, 2) := by decide +kernel
theorem dX1_isProved_25 : decode cX1_isProved 25 = .ok (.iconst 1, 1) := by decide +kernel
theorem dX1_isProved_26 : decode cX1_isProved 26 = .ok (.iaload, 1) := by decide +kernel
theorem dX1_isProved_27 : decode cX1_isProved 27 = .ok (.ifCond .eq 82, 3) := by decide +kernel
theorem dX1_isProved_30 : decode cX1_isProved 30 = .ok (.aload 5, 2) := by decide +kernel
theorem dX1_isProved_32 : decode cX1_isProved 32 = .ok (.iconst 0, 1) := by decide +kernel
theorem dX1_isProved_33 : decode cX1_isProved 33 = .ok (.iaload, 1) := by decide +kernel
theorem dX1_isProved_34 : decode cX1_isProved 34 = .ok (.iload_n 1, 1) := by decide +kernel
theorem dX1_isProved_35 : decode cX1_isProved 35 = .ok (.invokestatic 22, 3) := by decide +kernel
theorem dX1_isProved_38 : decode cX1_isProved 38 = .ok (.ifCond .ne 6, 3) := by decide +kernel
theorem dX1_isProved_41 : decode cX1_isProved 41 = .ok (.goto 68, 3) := by decide +kernel
theorem dX1_isProved_44 : decode cX1_isProved 44 = .ok (.iconst 1, 1) := by decide +kernel
theorem dX1_isProved_45 : decode cX1_isProved 45 = .ok (.istore 6, 2) := by decide +kernel
theorem dX1_isProved_47 : decode cX1_isProved 47 = .ok (.iconst 0, 1) := by decide +kernel
theorem dX1_isProved_48 : decode cX1_isProved 48 = .ok (.istore 7, 2) := by decide +kernel
theorem dX1_isProved_50 : decode cX1_isProved 50 = .ok (.iload 7, 2) := by decide +kernel
theorem dX1_isProved_52 : decode cX1_isProved 52 = .ok (.aload_n 0, 1) := by decide +kernel
theorem dX1_isProved_53 : decode cX1_isProved 53 = .ok (.getfield 18, 3) := by decide +kernel
theorem dX1_isProved_56 : decode cX1_isProved 56 = .ok (.if_icmp .ge 46, 3) := by decide +kernel
theorem dX1_isProved_59 : decode cX1_isProved 59 = .ok (.iload 6, 2) := by decide +kernel
theorem dX1_isProved_61 : decode cX1_isProved 61 = .ok (.iload 7, 2) := by decide +kernel
theorem dX1_isProved_63 : decode cX1_isProved 63 = .ok (.iload_n 1, 1) := by decide +kernel
theorem dX1_isProved_64 : decode cX1_isProved 64 = .ok (.if_icmp .eq 24, 3) := by decide +kernel
theorem dX1_isProved_67 : decode cX1_isProved 67 = .ok (.aload 5, 2) := by decide +kernel
theorem dX1_isProved_69 : decode cX1_isProved 69 = .ok (.iconst 0, 1) := by decide +kernel
theorem dX1_isProved_70 : decode cX1_isProved 70 = .ok (.iaload, 1) := by decide +kernel
theorem dX1_isProved_71 : decode cX1_isProved 71 = .ok (.iload 7, 2) := by decide +kernel
theorem dX1_isProved_73 : decode cX1_isProved 73 = .ok (.invokestatic 22, 3) := by decide +kernel
theorem dX1_isProved_76 : decode cX1_isProved 76 = .ok (.ifCond .eq 12, 3) := by decide +kernel
theorem dX1_isProved_79 : decode cX1_isProved 79 = .ok (.aload_n 0, 1) := by decide +kernel
theorem dX1_isProved_80 : decode cX1_isProved 80 = .ok (.iload 7, 2) := by decide +kernel
theorem dX1_isProved_82 : decode cX1_isProved 82 = .ok (.invokevirtual 40, 3) := by decide +kernel
theorem dX1_isProved_85 : decode cX1_isProved 85 = .ok (.ifCond .eq 7, 3) := by decide +kernel
theorem dX1_isProved_88 : decode cX1_isProved 88 = .ok (.iconst 1, 1) := by decide +kernel
theorem dX1_isProved_89 : decode cX1_isProved 89 = .ok (.goto 4, 3) := by decide +kernel
theorem dX1_isProved_92 : decode cX1_isProved 92 = .ok (.iconst 0, 1) := by decide +kernel
theorem dX1_isProved_93 : decode cX1_isProved 93 = .ok (.iand, 1) := by decide +kernel
theorem dX1_isProved_94 : decode cX1_isProved 94 = .ok (.istore 6, 2) := by decide +kernel
theorem dX1_isProved_96 : decode cX1_isProved 96 = .ok (.iinc 7 1, 3) := by decide +kernel
theorem dX1_isProved_99 : decode cX1_isProved 99 = .ok (.goto (-49), 3) := by decide +kernel
theorem dX1_isProved_102 : decode cX1_isProved 102 = .ok (.iload 6, 2) := by decide +kernel
theorem dX1_isProved_104 : decode cX1_isProved 104 = .ok (.ifCond .eq 5, 3) := by decide +kernel
theorem dX1_isProved_107 : decode cX1_isProved 107 = .ok (.iconst 1, 1) := by decide +kernel
theorem dX1_isProved_108 : decode cX1_isProved 108 = .ok (.ireturn, 1) := by decide +kernel
theorem dX1_isProved_109 : decode cX1_isProved 109 = .ok (.iinc 4 1, 3) := by decide +kernel
theorem dX1_isProved_112 : decode cX1_isProved 112 = .ok (.goto (-101), 3) := by decide +kernel
theorem dX1_isProved_115 : decode cX1_isProved 115 = .ok (.iconst 0, 1) := by decide +kernel
theorem dX1_isProved_116 : decode cX1_isProved 116 = .ok (.ireturn, 1) := by decide +kernel
set_option maxRecDepth 20000 in
theorem ggX1_votes_X1_isIn : GoodIn wsX1_votes wsX1_isIn := goodIn_r _ [5] (by decide +kernel) (by decide +kernel)
set_option maxRecDepth 20000 in
theorem gX1_votes_X1_isIn : GoodIn wsX1_votes (va_wsS RX1 22 yX1_isIn wsX1_isIn) := goodIn_app (goodIn_of _ (by decide +kernel)) ggX1_votes_X1_isIn
theorem dX1_votes_0 : decode cX1_votes 0 = .ok (.iconst 0, 1) := by decide +kernel
theorem dX1_votes_1 : decode cX1_votes 1 = .ok (.istore_n 2, 1) := by decide +kernel
theorem dX1_votes_2 : decode cX1_votes 2 = .ok (.aload_n 0, 1) := by decide +kernel
theorem dX1_votes_3 : decode cX1_votes 3 = .ok (.getfield 15, 3) := by decide +kernel
theorem dX1_votes_6 : decode cX1_votes 6 = .ok (.astore_n 3, 1) := by decide +kernel
theorem dX1_votes_7 : decode cX1_votes 7 = .ok (.aload_n 3, 1) := by decide +kernel
theorem dX1_votes_8 : decode cX1_votes 8 = .ok (.arraylength, 1) := by decide +kernel
theorem dX1_votes_9 : decode cX1_votes 9 = .ok (.istore 4, 2) := by decide +kernel
theorem dX1_votes_11 : decode cX1_votes 11 = .ok (.iconst 0, 1) := by decide +kernel
theorem dX1_votes_12 : decode cX1_votes 12 = .ok (.istore 5, 2) := by decide +kernel
theorem dX1_votes_14 : decode cX1_votes 14 = .ok (.iload 5, 2) := by decide +kernel
theorem dX1_votes_16 : decode cX1_votes 16 = .ok (.iload 4, 2) := by decide +kernel
theorem dX1_votes_18 : decode cX1_votes 18 = .ok (.if_icmp .ge 34, 3) := by decide +kernel
theorem dX1_votes_21 : decode cX1_votes 21 = .ok (.aload_n 3, 1) := by decide +kernel
theorem dX1_votes_22 : decode cX1_votes 22 = .ok (.iload 5, 2) := by decide +kernel
theorem dX1_votes_24 : decode cX1_votes 24 = .ok (.aaload, 1) := by decide +kernel
theorem dX1_votes_25 : decode cX1_votes 25 = .ok (.astore 6, 2) := by decide +kernel
theorem dX1_votes_27 : decode cX1_votes 27 = .ok (.iload_n 2, 1) := by decide +kernel
theorem dX1_votes_28 : decode cX1_votes 28 = .ok (.aload 6, 2) := by decide +kernel
theorem dX1_votes_30 : decode cX1_votes 30 = .ok (.iconst 0, 1) := by decide +kernel
theorem dX1_votes_31 : decode cX1_votes 31 = .ok (.iaload, 1) := by decide +kernel
theorem dX1_votes_32 : decode cX1_votes 32 = .ok (.iload_n 1, 1) := by decide +kernel
theorem dX1_votes_33 : decode cX1_votes 33 = .ok (.invokestatic 22, 3) := by decide +kernel
theorem dX1_votes_36 : decode cX1_votes 36 = .ok (.ifCond .eq 7, 3) := by decide +kernel
theorem dX1_votes_39 : decode cX1_votes 39 = .ok (.iconst 1, 1) := by decide +kernel
theorem dX1_votes_40 : decode cX1_votes 40 = .ok (.goto 4, 3) := by decide +kernel
theorem dX1_votes_43 : decode cX1_votes 43 = .ok (.iconst 0, 1) := by decide +kernel
theorem dX1_votes_44 : decode cX1_votes 44 = .ok (.iadd, 1) := by decide +kernel
theorem dX1_votes_45 : decode cX1_votes 45 = .ok (.istore_n 2, 1) := by decide +kernel
theorem dX1_votes_46 : decode cX1_votes 46 = .ok (.iinc 5 1, 3) := by decide +kernel
theorem dX1_votes_49 : decode cX1_votes 49 = .ok (.goto (-35), 3) := by decide +kernel
theorem dX1_votes_52 : decode cX1_votes 52 = .ok (.iload_n 2, 1) := by decide +kernel
theorem dX1_votes_53 : decode cX1_votes 53 = .ok (.ireturn, 1) := by decide +kernel
set_option maxRecDepth 20000 in
theorem ggX1_write_X1_with : GoodIn wsX1_write wsX1_with := goodIn_r _ [8, 9] (by decide +kernel) (by decide +kernel)
set_option maxRecDepth 20000 in
theorem gX1_write_X1_with : GoodIn wsX1_write (va_wsS RX1 44 yX1_with wsX1_with) := goodIn_app (goodIn_of _ (by decide +kernel)) ggX1_write_X1_with
set_option maxRecDepth 20000 in
theorem ggX1_write_X1_explanations : GoodIn wsX1_write wsX1_explanations := goodIn_r _ [13, 2, 14, 15, 16, 7, 17, 18, 19, 20, 21, 22, 1, 23, 24, 25, 26, 27, 28, 29, 38, 39, 40, 41] (by decide +kernel) (by decide +kernel)
set_option maxRecDepth 20000 in
theorem gX1_write_X1_explanations : GoodIn wsX1_write (wsV RX1 48 RX1 yX1_explanations wsX1_explanations) := goodIn_app (goodIn_of _ (by decide +kernel)) ggX1_write_X1_explanations
set_option maxRecDepth 20000 in
theorem ggX1_write_X1_simplest : GoodIn wsX1_write wsX1_simplest := goodIn_r _ [33, 34, 35, 36, 7, 37, 18, 27, 28, 29, 38, 39, 40, 41] (by decide +kernel) (by decide +kernel)
set_option maxRecDepth 20000 in
theorem gX1_write_X1_simplest : GoodIn wsX1_write (wsV RX1 52 RX1 yX1_simplest wsX1_simplest) := goodIn_app (goodIn_of _ (by decide +kernel)) ggX1_write_X1_simplest
set_option maxRecDepth 20000 in
theorem ggX1_write_X1_meet : GoodIn wsX1_write wsX1_meet := goodIn_r _ [26, 18, 27, 28, 7, 29, 38, 39, 40, 41] (by decide +kernel) (by decide +kernel)
set_option maxRecDepth 20000 in
theorem gX1_write_X1_meet : GoodIn wsX1_write (wsV RX1 26 RX1 yX1_meet wsX1_meet) := goodIn_app (goodIn_of _ (by decide +kernel)) ggX1_write_X1_meet
theorem dX1_write_0 : decode cX1_write 0 = .ok (.aload_n 0, 1) := by decide +kernel
theorem dX1_write_1 : decode cX1_write 1 = .ok (.aload_n 0, 1) := by decide +kernel
theorem dX1_write_2 : decode cX1_write 2 = .ok (.getfield 9, 3) := by decide +kernel
theorem dX1_write_5 : decode cX1_write 5 = .ok (.iconst 2, 1) := by decide +kernel
theorem dX1_write_6 : decode cX1_write 6 = .ok (.newarray .int, 2) := by decide +kernel
theorem dX1_write_8 : decode cX1_write 8 = .ok (.dup, 1) := by decide +kernel
theorem dX1_write_9 : decode cX1_write 9 = .ok (.iconst 0, 1) := by decide +kernel
theorem dX1_write_10 : decode cX1_write 10 = .ok (.iload_n 1, 1) := by decide +kernel
theorem dX1_write_11 : decode cX1_write 11 = .ok (.iastore, 1) := by decide +kernel
theorem dX1_write_12 : decode cX1_write 12 = .ok (.dup, 1) := by decide +kernel
theorem dX1_write_13 : decode cX1_write 13 = .ok (.iconst 1, 1) := by decide +kernel
theorem dX1_write_14 : decode cX1_write 14 = .ok (.iload_n 2, 1) := by decide +kernel
theorem dX1_write_15 : decode cX1_write 15 = .ok (.ifCond .eq 7, 3) := by decide +kernel
theorem dX1_write_18 : decode cX1_write 18 = .ok (.iconst 1, 1) := by decide +kernel
theorem dX1_write_19 : decode cX1_write 19 = .ok (.goto 4, 3) := by decide +kernel
theorem dX1_write_22 : decode cX1_write 22 = .ok (.iconst 0, 1) := by decide +kernel
theorem dX1_write_23 : decode cX1_write 23 = .ok (.iastore, 1) := by decide +kernel
theorem dX1_write_24 : decode cX1_write 24 = .ok (.invokestatic 44, 3) := by decide +kernel
theorem dX1_write_27 : decode cX1_write 27 = .ok (.putfield 9, 3) := by decide +kernel
theorem dX1_write_30 : decode cX1_write 30 = .ok (.aload_n 0, 1) := by decide +kernel
theorem dX1_write_31 : decode cX1_write 31 = .ok (.aload_n 0, 1) := by decide +kernel
theorem dX1_write_32 : decode cX1_write 32 = .ok (.invokevirtual 48, 3) := by decide +kernel
theorem dX1_write_35 : decode cX1_write 35 = .ok (.invokevirtual 52, 3) := by decide +kernel
theorem dX1_write_38 : decode cX1_write 38 = .ok (.istore_n 3, 1) := by decide +kernel
theorem dX1_write_39 : decode cX1_write 39 = .ok (.iconst 0, 1) := by decide +kernel
theorem dX1_write_40 : decode cX1_write 40 = .ok (.istore 4, 2) := by decide +kernel
theorem dX1_write_42 : decode cX1_write 42 = .ok (.aload_n 0, 1) := by decide +kernel
theorem dX1_write_43 : decode cX1_write 43 = .ok (.getfield 15, 3) := by decide +kernel
theorem dX1_write_46 : decode cX1_write 46 = .ok (.astore 5, 2) := by decide +kernel
theorem dX1_write_48 : decode cX1_write 48 = .ok (.aload 5, 2) := by decide +kernel
theorem dX1_write_50 : decode cX1_write 50 = .ok (.arraylength, 1) := by decide +kernel
theorem dX1_write_51 : decode cX1_write 51 = .ok (.istore 6, 2) := by decide +kernel
theorem dX1_write_53 : decode cX1_write 53 = .ok (.iconst 0, 1) := by decide +kernel
theorem dX1_write_54 : decode cX1_write 54 = .ok (.istore 7, 2) := by decide +kernel
theorem dX1_write_56 : decode cX1_write 56 = .ok (.iload 7, 2) := by decide +kernel
theorem dX1_write_58 : decode cX1_write 58 = .ok (.iload 6, 2) := by decide +kernel
theorem dX1_write_60 : decode cX1_write 60 = .ok (.if_icmp .ge 70, 3) := by decide +kernel
theorem dX1_write_63 : decode cX1_write 63 = .ok (.aload 5, 2) := by decide +kernel
theorem dX1_write_65 : decode cX1_write 65 = .ok (.iload 7, 2) := by decide +kernel
theorem dX1_write_67 : decode cX1_write 67 = .ok (.aaload, 1) := by decide +kernel
theorem dX1_write_68 : decode cX1_write 68 = .ok (.astore 8, 2) := by decide +kernel
theorem dX1_write_70 : decode cX1_write 70 = .ok (.aload_n 0, 1) := by decide +kernel
theorem dX1_write_71 : decode cX1_write 71 = .ok (.aload 8, 2) := by decide +kernel
theorem dX1_write_73 : decode cX1_write 73 = .ok (.iconst 0, 1) := by decide +kernel
theorem dX1_write_74 : decode cX1_write 74 = .ok (.iaload, 1) := by decide +kernel
theorem dX1_write_75 : decode cX1_write 75 = .ok (.iload_n 1, 1) := by decide +kernel
theorem dX1_write_76 : decode cX1_write 76 = .ok (.invokevirtual 26, 3) := by decide +kernel
theorem dX1_write_79 : decode cX1_write 79 = .ok (.iload_n 2, 1) := by decide +kernel
theorem dX1_write_80 : decode cX1_write 80 = .ok (.if_icmp .ne 6, 3) := by decide +kernel
theorem dX1_write_83 : decode cX1_write 83 = .ok (.goto 41, 3) := by decide +kernel
theorem dX1_write_86 : decode cX1_write 86 = .ok (.aload 8, 2) := by decide +kernel
theorem dX1_write_88 : decode cX1_write 88 = .ok (.iconst 1, 1) := by decide +kernel
theorem dX1_write_89 : decode cX1_write 89 = .ok (.iaload, 1) := by decide +kernel
theorem dX1_write_90 : decode cX1_write 90 = .ok (.ifCond .le 14, 3) := by decide +kernel
theorem dX1_write_93 : decode cX1_write 93 = .ok (.aload 8, 2) := by decide +kernel
theorem dX1_write_95 : decode cX1_write 95 = .ok (.iconst 1, 1) := by decide +kernel
theorem dX1_write_96 : decode cX1_write 96 = .ok (.dup2, 1) := by decide +kernel
theorem dX1_write_97 : decode cX1_write 97 = .ok (.iaload, 1) := by decide +kernel
theorem dX1_write_98 : decode cX1_write 98 = .ok (.iconst 1, 1) := by decide +kernel
theorem dX1_write_99 : decode cX1_write 99 = .ok (.isub, 1) := by decide +kernel
theorem dX1_write_100 : decode cX1_write 100 = .ok (.iastore, 1) := by decide +kernel
theorem dX1_write_101 : decode cX1_write 101 = .ok (.goto 23, 3) := by decide +kernel
theorem dX1_write_104 : decode cX1_write 104 = .ok (.iload_n 3, 1) := by decide +kernel
theorem dX1_write_105 : decode cX1_write 105 = .ok (.ifCond .lt 19, 3) := by decide +kernel
theorem dX1_write_108 : decode cX1_write 108 = .ok (.aload 8, 2) := by decide +kernel
theorem dX1_write_110 : decode cX1_write 110 = .ok (.iconst 0, 1) := by decide +kernel
theorem dX1_write_111 : decode cX1_write 111 = .ok (.iload_n 3, 1) := by decide +kernel
theorem dX1_write_112 : decode cX1_write 112 = .ok (.iastore, 1) := by decide +kernel
theorem dX1_write_113 : decode cX1_write 113 = .ok (.aload 8, 2) := by decide +kernel
theorem dX1_write_115 : decode cX1_write 115 = .ok (.iconst 1, 1) := by decide +kernel
theorem dX1_write_116 : decode cX1_write 116 = .ok (.aload 8, 2) := by decide +kernel
theorem dX1_write_118 : decode cX1_write 118 = .ok (.iconst 2, 1) := by decide +kernel
theorem dX1_write_119 : decode cX1_write 119 = .ok (.iaload, 1) := by decide +kernel
theorem dX1_write_120 : decode cX1_write 120 = .ok (.iastore, 1) := by decide +kernel
theorem dX1_write_121 : decode cX1_write 121 = .ok (.iinc 4 1, 3) := by decide +kernel
theorem dX1_write_124 : decode cX1_write 124 = .ok (.iinc 7 1, 3) := by decide +kernel
theorem dX1_write_127 : decode cX1_write 127 = .ok (.goto (-71), 3) := by decide +kernel
theorem dX1_write_130 : decode cX1_write 130 = .ok (.aload_n 0, 1) := by decide +kernel
theorem dX1_write_131 : decode cX1_write 131 = .ok (.dup, 1) := by decide +kernel
theorem dX1_write_132 : decode cX1_write 132 = .ok (.getfield 56, 3) := by decide +kernel
theorem dX1_write_135 : decode cX1_write 135 = .ok (.iload 4, 2) := by decide +kernel
theorem dX1_write_137 : decode cX1_write 137 = .ok (.iadd, 1) := by decide +kernel
theorem dX1_write_138 : decode cX1_write 138 = .ok (.putfield 56, 3) := by decide +kernel
theorem dX1_write_141 : decode cX1_write 141 = .ok (.iload 4, 2) := by decide +kernel
theorem dX1_write_143 : decode cX1_write 143 = .ok (.ireturn, 1) := by decide +kernel
set_option maxRecDepth 20000 in
theorem ggX1_strike_X1_with : GoodIn wsX1_strike wsX1_with := goodIn_r _ [6, 1] (by decide +kernel) (by decide +kernel)
set_option maxRecDepth 20000 in
theorem gX1_strike_X1_with : GoodIn wsX1_strike (va_wsS RX1 44 yX1_with wsX1_with) := goodIn_app (goodIn_of _ (by decide +kernel)) ggX1_strike_X1_with
theorem dX1_strike_0 : decode cX1_strike 0 = .ok (.iconst 0, 1) := by decide +kernel
theorem dX1_strike_1 : decode cX1_strike 1 = .ok (.anewarray 7, 3) := by decide +kernel
theorem dX1_strike_4 : decode cX1_strike 4 = .ok (.astore_n 2, 1) := by decide +kernel
theorem dX1_strike_5 : decode cX1_strike 5 = .ok (.iconst 0, 1) := by decide +kernel
theorem dX1_strike_6 : decode cX1_strike 6 = .ok (.istore_n 3, 1) := by decide +kernel
theorem dX1_strike_7 : decode cX1_strike 7 = .ok (.iload_n 3, 1) := by decide +kernel
theorem dX1_strike_8 : decode cX1_strike 8 = .ok (.aload_n 0, 1) := by decide +kernel
theorem dX1_strike_9 : decode cX1_strike 9 = .ok (.getfield 9, 3) := by decide +kernel
theorem dX1_strike_12 : decode cX1_strike 12 = .ok (.arraylength, 1) := by decide +kernel
theorem dX1_strike_13 : decode cX1_strike 13 = .ok (.if_icmp .ge 25, 3) := by decide +kernel
theorem dX1_strike_16 : decode cX1_strike 16 = .ok (.iload_n 3, 1) := by decide +kernel
theorem dX1_strike_17 : decode cX1_strike 17 = .ok (.iload_n 1, 1) := by decide +kernel
theorem dX1_strike_18 : decode cX1_strike 18 = .ok (.if_icmp .eq 14, 3) := by decide +kernel
theorem dX1_strike_21 : decode cX1_strike 21 = .ok (.aload_n 2, 1) := by decide +kernel
theorem dX1_strike_22 : decode cX1_strike 22 = .ok (.aload_n 0, 1) := by decide +kernel
theorem dX1_strike_23 : decode cX1_strike 23 = .ok (.getfield 9, 3) := by decide +kernel
theorem dX1_strike_26 : decode cX1_strike 26 = .ok (.iload_n 3, 1) := by decide +kernel
theorem dX1_strike_27 : decode cX1_strike 27 = .ok (.aaload, 1) := by decide +kernel
theorem dX1_strike_28 : decode cX1_strike 28 = .ok (.invokestatic 44, 3) := by decide +kernel
theorem dX1_strike_31 : decode cX1_strike 31 = .ok (.astore_n 2, 1) := by decide +kernel
theorem dX1_strike_32 : decode cX1_strike 32 = .ok (.iinc 3 1, 3) := by decide +kernel
theorem dX1_strike_35 : decode cX1_strike 35 = .ok (.goto (-28), 3) := by decide +kernel
theorem dX1_strike_38 : decode cX1_strike 38 = .ok (.aload_n 0, 1) := by decide +kernel
theorem dX1_strike_39 : decode cX1_strike 39 = .ok (.aload_n 2, 1) := by decide +kernel
theorem dX1_strike_40 : decode cX1_strike 40 = .ok (.putfield 9, 3) := by decide +kernel
theorem dX1_strike_43 : decode cX1_strike 43 = .ok (.return_, 1) := by decide +kernel
set_option maxRecDepth 20000 in
theorem ggX1_isSame_X1_explanations : GoodIn wsX1_isSame wsX1_explanations := goodIn_r _ [9, 10, 11, 12, 13, 8, 14, 2, 15, 16, 17, 18, 1, 19, 20, 21, 22, 23, 24, 25, 197, 198, 199, 200] (by decide +kernel) (by decide +kernel)
set_option maxRecDepth 20000 in
theorem gX1_isSame_X1_explanations : GoodIn wsX1_isSame (wsV RX1 48 RX1 yX1_explanations wsX1_explanations) := goodIn_app (goodIn_of _ (by decide +kernel)) ggX1_isSame_X1_explanations
set_option maxRecDepth 20000 in
theorem ggX1_isSame_X0_usedIn : GoodIn wsX1_isSame wsX0_usedIn := goodIn_ca (goodIn_r _ [30, 31, 32, 33, 34, 29, 35, 36, 37, 38, 201, 202, 203, 204, 205, 206, 207, 208, 209, 210] (by decide +kernel) (by decide +kernel)) (goodIn_sub (fun _ h => List.mem_cons_of_mem _ (List.mem_append_right _ h)) (by decide +kernel))
set_option maxRecDepth 20000 in
theorem gX1_isSame_X0_usedIn : GoodIn wsX1_isSame (wsV RX1 59 RX0 yX0_usedIn wsX0_usedIn) := goodIn_app (goodIn_of _ (by decide +kernel)) ggX1_isSame_X0_usedIn
set_option maxRecDepth 20000 in
theorem ggX1_isSame_X0_isSmudged : GoodIn wsX1_isSame wsX0_isSmudged := goodIn_ca (goodIn_r _ [42, 43, 32, 33, 34, 29, 35, 36, 37, 38, 201, 202, 203, 204, 205, 206, 207, 208, 209, 210] (by decide +kernel) (by decide +kernel)) (goodIn_sub (fun _ h => List.mem_cons_of_mem _ (List.mem_append_right _ h)) (by decide +kernel))
set_option maxRecDepth 20000 in
theorem gX1_isSame_X0_isSmudged : GoodIn wsX1_isSame (wsV RX1 64 RX0 yX0_isSmudged wsX0_isSmudged) := goodIn_app (goodIn_of _ (by decide +kernel)) ggX1_isSame_X0_isSmudged
set_option maxRecDepth 20000 in
theorem ggX1_isSame_X1_isIn : GoodIn wsX1_isSame wsX1_isIn := goodIn_r _ [25] (by decide +kernel) (by decide +kernel)
set_option maxRecDepth 20000 in
theorem gX1_isSame_X1_isIn : GoodIn wsX1_isSame (va_wsS RX1 22 yX1_isIn wsX1_isIn) := goodIn_app (goodIn_of _ (by decide +kernel)) ggX1_isSame_X1_isIn
set_option maxRecDepth 20000 in
theorem ggX1_isSame_X0_nightsWith : GoodIn wsX1_isSame wsX0_nightsWith := goodIn_ca (goodIn_r _ [47, 38, 31, 48, 49, 50, 29, 51, 36, 37, 52, 53, 54, 55, 56, 57, 58, 201, 202, 203, 204, 205, 206, 207, 208, 209, 210] (by decide +kernel) (by decide +kernel)) (goodIn_sub (fun _ h => List.mem_cons_of_mem _ (List.mem_append_right _ h)) (by decide +kernel))
set_option maxRecDepth 20000 in
theorem gX1_isSame_X0_nightsWith : GoodIn wsX1_isSame (wsV RX1 67 RX0 yX0_nightsWith wsX0_nightsWith) := goodIn_app (goodIn_of _ (by decide +kernel)) ggX1_isSame_X0_nightsWith
set_option maxRecDepth 20000 in
theorem ggX1_isSame_X0_smudgesWith : GoodIn wsX1_isSame wsX0_smudgesWith := goodIn_ca (goodIn_r _ [62, 38, 43, 31, 48, 49, 50, 29, 51, 36, 37, 52, 53, 54, 55, 56, 57, 58, 201, 202, 203, 204, 205, 206, 207, 208, 209, 210] (by decide +kernel) (by decide +kernel)) (goodIn_sub (fun _ h => List.mem_cons_of_mem _ (List.mem_append_right _ h)) (by decide +kernel))
set_option maxRecDepth 20000 in
theorem gX1_isSame_X0_smudgesWith : GoodIn wsX1_isSame (wsV RX1 70 RX0 yX0_smudgesWith wsX0_smudgesWith) := goodIn_app (goodIn_of _ (by decide +kernel)) ggX1_isSame_X0_smudgesWith
set_option maxRecDepth 20000 in
theorem ggX1_isSame_X0_isCleared : GoodIn wsX1_isSame wsX0_isCleared := goodIn_ca (goodIn_r _ [66, 48, 49, 50, 29, 51, 36, 37, 52, 67, 68, 69, 70, 38, 43, 31, 53, 54, 55, 56, 57, 58, 201, 202, 203, 204, 205, 206, 207, 208, 209, 210] (by decide +kernel) (by decide +kernel)) (goodIn_sub (fun _ h => List.mem_cons_of_mem _ (List.mem_append_right _ h)) (by decide +kernel))
set_option maxRecDepth 20000 in
theorem gX1_isSame_X0_isCleared : GoodIn wsX1_isSame (wsV RX1 73 RX0 yX0_isCleared wsX0_isCleared) := goodIn_app (goodIn_of _ (by decide +kernel)) ggX1_isSame_X0_isCleared
set_option maxRecDepth 20000 in
theorem ggX1_isSame_X1_isCleared : GoodIn wsX1_isSame wsX1_isCleared := goodIn_r _ [74, 1, 23, 24, 8, 25, 197, 198, 199, 200] (by decide +kernel) (by decide +kernel)
set_option maxRecDepth 20000 in
theorem gX1_isSame_X1_isCleared : GoodIn wsX1_isSame (wsV RX1 40 RX1 yX1_isCleared wsX1_isCleared) := goodIn_app (goodIn_of _ (by decide +kernel)) ggX1_isSame_X1_isCleared
set_option maxRecDepth 20000 in
theorem ggX1_isSame_X0_isProved : GoodIn wsX1_isSame wsX0_isProved := goodIn_ca (goodIn_r _ [78, 38, 31, 43, 48, 49, 50, 29, 51, 36, 37, 52, 67, 68, 69, 70, 56, 57, 58, 53, 54, 55, 201, 202, 203, 204, 205, 206, 207, 208, 209, 210] (by decide +kernel) (by decide +kernel)) (goodIn_sub (fun _ h => List.mem_cons_of_mem _ (List.mem_append_right _ h)) (by decide +kernel))
set_option maxRecDepth 20000 in
theorem gX1_isSame_X0_isProved : GoodIn wsX1_isSame (wsV RX1 74 RX0 yX0_isProved wsX0_isProved) := goodIn_app (goodIn_of _ (by decide +kernel)) ggX1_isSame_X0_isProved
set_option maxRecDepth 20000 in
theorem ggX1_isSame_X1_isProved : GoodIn wsX1_isSame wsX1_isProved := goodIn_r _ [82, 1, 2, 23, 24, 8, 25, 71, 72, 73, 74, 197, 198, 199, 200] (by decide +kernel) (by decide +kernel)
set_option maxRecDepth 20000 in
theorem gX1_isSame_X1_isProved : GoodIn wsX1_isSame (wsV RX1 77 RX1 yX1_isProved wsX1_isProved) := goodIn_app (goodIn_of _ (by decide +kernel)) ggX1_isSame_X1_isProved
set_option maxRecDepth 20000 in
theorem ggX1_isSame_X0_setsWith : GoodIn wsX1_isSame wsX0_setsWith := goodIn_ca (goodIn_r _ [86, 48, 49, 50, 29, 51, 36, 37, 52, 56, 57, 58, 87, 88, 89, 90, 91, 92, 93, 94, 95, 96, 97, 98, 99, 201, 202, 203, 204, 205, 206, 207, 208, 209, 210] (by decide +kernel) (by decide +kernel)) (goodIn_sub (fun _ h => List.mem_cons_of_mem _ (List.mem_append_right _ h)) (by decide +kernel))
set_option maxRecDepth 20000 in
theorem gX1_isSame_X0_setsWith : GoodIn wsX1_isSame (wsV RX1 78 RX0 yX0_setsWith wsX0_setsWith) := goodIn_app (goodIn_of _ (by decide +kernel)) ggX1_isSame_X0_setsWith
set_option maxRecDepth 20000 in
theorem ggX1_isSame_X0_votesFor : GoodIn wsX1_isSame wsX0_votesFor := goodIn_ca (goodIn_r _ [103, 104, 105, 48, 49, 50, 29, 51, 36, 37, 52, 53, 54, 55, 56, 57, 58, 201, 202, 203, 204, 205, 206, 207, 208, 209, 210] (by decide +kernel) (by decide +kernel)) (goodIn_sub (fun _ h => List.mem_cons_of_mem _ (List.mem_append_right _ h)) (by decide +kernel))
set_option maxRecDepth 20000 in
theorem gX1_isSame_X0_votesFor : GoodIn wsX1_isSame (wsV RX1 81 RX0 yX0_votesFor wsX0_votesFor) := goodIn_app (goodIn_of _ (by decide +kernel)) ggX1_isSame_X0_votesFor
set_option maxRecDepth 20000 in
theorem ggX1_isSame_X1_votes : GoodIn wsX1_isSame wsX1_votes := goodIn_r _ [109, 3, 23, 24, 8, 25, 197, 198, 199, 200] (by decide +kernel) (by decide +kernel)
set_option maxRecDepth 20000 in
theorem gX1_isSame_X1_votes : GoodIn wsX1_isSame (wsV RX1 84 RX1 yX1_votes wsX1_votes) := goodIn_app (goodIn_of _ (by decide +kernel)) ggX1_isSame_X1_votes
set_option maxRecDepth 20000 in
theorem ggX1_isSame_X0_blamedBy : GoodIn wsX1_isSame wsX0_blamedBy := goodIn_ca (goodIn_r _ [113, 105, 114, 115, 116, 29, 117, 36, 37, 104, 201, 202, 203, 204, 205, 206, 207, 208, 209, 210] (by decide +kernel) (by decide +kernel)) (goodIn_sub (fun _ h => List.mem_cons_of_mem _ (List.mem_append_right _ h)) (by decide +kernel))
set_option maxRecDepth 20000 in
theorem gX1_isSame_X0_blamedBy : GoodIn wsX1_isSame (wsV RX1 87 RX0 yX0_blamedBy wsX0_blamedBy) := goodIn_app (goodIn_of _ (by decide +kernel)) ggX1_isSame_X0_blamedBy
set_option maxRecDepth 20000 in
theorem ggX1_isSame_X0_stubbornnessOf : GoodIn wsX1_isSame wsX0_stubbornnessOf := goodIn_ca (goodIn_r _ [121, 122, 114, 115, 116, 29, 117, 36, 37, 104, 201, 202, 203, 204, 205, 206, 207, 208, 209, 210] (by decide +kernel) (by decide +kernel)) (goodIn_sub (fun _ h => List.mem_cons_of_mem _ (List.mem_append_right _ h)) (by decide +kernel))
set_option maxRecDepth 20000 in
theorem gX1_isSame_X0_stubbornnessOf : GoodIn wsX1_isSame (wsV RX1 90 RX0 yX0_stubbornnessOf wsX0_stubbornnessOf) := goodIn_app (goodIn_of _ (by decide +kernel)) ggX1_isSame_X0_stubbornnessOf
set_option maxRecDepth 20000 in
theorem ggX1_isSame_X0_unexplainedBy : GoodIn wsX1_isSame wsX0_unexplainedBy := goodIn_ca (goodIn_r _ [126, 105, 114, 115, 116, 29, 117, 36, 37, 104, 95, 96, 97, 98, 99, 201, 202, 203, 204, 205, 206, 207, 208, 209, 210] (by decide +kernel) (by decide +kernel)) (goodIn_sub (fun _ h => List.mem_cons_of_mem _ (List.mem_append_right _ h)) (by decide +kernel))
set_option maxRecDepth 20000 in
theorem gX1_isSame_X0_unexplainedBy : GoodIn wsX1_isSame (wsV RX1 93 RX0 yX0_unexplainedBy wsX0_unexplainedBy) := goodIn_app (goodIn_of _ (by decide +kernel)) ggX1_isSame_X0_unexplainedBy
set_option maxRecDepth 20000 in
theorem ggX1_isSame_X1_unexplained : GoodIn wsX1_isSame wsX1_unexplained := goodIn_r _ [18, 1, 19, 20, 21, 8, 22, 2, 23, 24, 25, 197, 198, 199, 200] (by decide +kernel) (by decide +kernel)
set_option maxRecDepth 20000 in
theorem gX1_isSame_X1_unexplained : GoodIn wsX1_isSame (wsV RX1 33 RX1 yX1_unexplained wsX1_unexplained) := goodIn_app (goodIn_of _ (by decide +kernel)) ggX1_isSame_X1_unexplained
set_option maxRecDepth 20000 in
theorem ggX1_isSame_X1_size : GoodIn wsX1_isSame wsX1_size := goodIn_r _ [130, 2, 23, 24, 8, 25, 197, 198, 199, 200] (by decide +kernel) (by decide +kernel)
set_option maxRecDepth 20000 in
theorem gX1_isSame_X1_size : GoodIn wsX1_isSame (wsV RX1 37 RX1 yX1_size wsX1_size) := goodIn_app (goodIn_of _ (by decide +kernel)) ggX1_isSame_X1_size
set_option maxRecDepth 20000 in
theorem ggX1_isSame_X0_things : GoodIn wsX1_isSame wsX0_things := goodIn_r _ [134, 52, 201, 202, 203, 204, 205, 206, 207, 208, 209, 210] (by decide +kernel) (by decide +kernel)
set_option maxRecDepth 20000 in
theorem gX1_isSame_X0_things : GoodIn wsX1_isSame (wsV RX1 96 RX0 yX0_things wsX0_things) := goodIn_app (goodIn_of _ (by decide +kernel)) ggX1_isSame_X0_things
set_option maxRecDepth 20000 in
theorem ggX1_isSame_X0_nights : GoodIn wsX1_isSame wsX0_nights := goodIn_r _ [138, 38, 201, 202, 203, 204, 205, 206, 207, 208, 209, 210] (by decide +kernel) (by decide +kernel)
set_option maxRecDepth 20000 in
theorem gX1_isSame_X0_nights : GoodIn wsX1_isSame (wsV RX1 98 RX0 yX0_nights wsX0_nights) := goodIn_app (goodIn_of _ (by decide +kernel)) ggX1_isSame_X0_nights
set_option maxRecDepth 20000 in
theorem ggX1_isSame_X0_smudges : GoodIn wsX1_isSame wsX0_smudges := goodIn_r _ [142, 38, 43, 201, 202, 203, 204, 205, 206, 207, 208, 209, 210] (by decide +kernel) (by decide +kernel)
set_option maxRecDepth 20000 in
theorem gX1_isSame_X0_smudges : GoodIn wsX1_isSame (wsV RX1 100 RX0 yX0_smudges wsX0_smudges) := goodIn_app (goodIn_of _ (by decide +kernel)) ggX1_isSame_X0_smudges
set_option maxRecDepth 20000 in
theorem ggX1_isSame_X0_agree : GoodIn wsX1_isSame wsX0_agree := goodIn_r _ [146, 147, 148, 149, 29, 150, 38, 151, 152, 153, 154, 91, 92, 93, 94, 52, 95, 96, 97, 98, 99, 201, 202, 203, 204, 205, 206, 207, 208, 209, 210] (by decide +kernel) (by decide +kernel)
set_option maxRecDepth 20000 in
theorem gX1_isSame_X0_agree : GoodIn wsX1_isSame (wsV RX1 103 RX0 yX0_agree wsX0_agree) := goodIn_app (goodIn_of _ (by decide +kernel)) ggX1_isSame_X0_agree
set_option maxRecDepth 20000 in
theorem ggX1_isSame_X0_astronomers : GoodIn wsX1_isSame wsX0_astronomers := goodIn_r _ [158, 104, 201, 202, 203, 204, 205, 206, 207, 208, 209, 210] (by decide +kernel) (by decide +kernel)
set_option maxRecDepth 20000 in
theorem gX1_isSame_X0_astronomers : GoodIn wsX1_isSame (wsV RX1 107 RX0 yX0_astronomers wsX0_astronomers) := goodIn_app (goodIn_of _ (by decide +kernel)) ggX1_isSame_X0_astronomers
set_option maxRecDepth 20000 in
theorem ggX1_isSame_X0_vote : GoodIn wsX1_isSame wsX0_vote := goodIn_ca (goodIn_r _ [162, 52, 104, 163, 101, 102, 29, 103, 105, 48, 49, 50, 51, 36, 37, 53, 54, 55, 56, 57, 58, 201, 202, 203, 204, 205, 206, 207, 208, 209, 210] (by decide +kernel) (by decide +kernel)) (goodIn_sub (fun _ h => List.mem_cons_of_mem _ (List.mem_append_right _ h)) (by decide +kernel))
set_option maxRecDepth 20000 in
theorem gX1_isSame_X0_vote : GoodIn wsX1_isSame (wsV RX1 109 RX0 yX0_vote wsX0_vote) := goodIn_app (goodIn_of _ (by decide +kernel)) ggX1_isSame_X0_vote
set_option maxRecDepth 20000 in
theorem ggX1_isSame_X0_changesOfMind : GoodIn wsX1_isSame wsX0_changesOfMind := goodIn_r _ [167, 168, 201, 202, 203, 204, 205, 206, 207, 208, 209, 210] (by decide +kernel) (by decide +kernel)
set_option maxRecDepth 20000 in
theorem gX1_isSame_X0_changesOfMind : GoodIn wsX1_isSame (wsV RX1 112 RX0 yX0_changesOfMind wsX0_changesOfMind) := goodIn_app (goodIn_of _ (by decide +kernel)) ggX1_isSame_X0_changesOfMind
set_option maxRecDepth 20000 in
theorem ggX1_isSame_X0_explanations : GoodIn wsX1_isSame wsX0_explanations := goodIn_r _ [172, 91, 92, 93, 29, 94, 52, 95, 96, 97, 98, 99, 201, 202, 203, 204, 205, 206, 207, 208, 209, 210] (by decide +kernel) (by decide +kernel)
set_option maxRecDepth 20000 in
theorem gX1_isSame_X0_explanations : GoodIn wsX1_isSame (wsV RX1 115 RX0 yX0_explanations wsX0_explanations) := goodIn_app (goodIn_of _ (by decide +kernel)) ggX1_isSame_X0_explanations
set_option maxRecDepth 20000 in
theorem ggX1_isSame_X0_simplest : GoodIn wsX1_isSame wsX0_simplest := goodIn_r _ [176, 91, 92, 93, 29, 94, 52, 95, 96, 97, 98, 99, 177, 178, 179, 180, 181, 182, 183, 201, 202, 203, 204, 205, 206, 207, 208, 209, 210] (by decide +kernel) (by decide +kernel)
set_option maxRecDepth 20000 in
theorem gX1_isSame_X0_simplest : GoodIn wsX1_isSame (wsV RX1 117 RX0 yX0_simplest wsX0_simplest) := goodIn_app (goodIn_of _ (by decide +kernel)) ggX1_isSame_X0_simplest
set_option maxRecDepth 20000 in
theorem ggX1_isSame_X1_simplest : GoodIn wsX1_isSame wsX1_simplest := goodIn_r _ [187, 127, 128, 129, 8, 130, 2, 23, 24, 25, 197, 198, 199, 200] (by decide +kernel) (by decide +kernel)
set_option maxRecDepth 20000 in
theorem gX1_isSame_X1_simplest : GoodIn wsX1_isSame (wsV RX1 52 RX1 yX1_simplest wsX1_simplest) := goodIn_app (goodIn_of _ (by decide +kernel)) ggX1_isSame_X1_simplest
set_option maxRecDepth 20000 in
theorem ggX1_isSame_X0_surelyToBlame : GoodIn wsX1_isSame wsX0_surelyToBlame := goodIn_r _ [191, 192, 144, 145, 29, 146, 147, 148, 149, 150, 38, 151, 152, 153, 154, 91, 92, 93, 94, 52, 95, 96, 97, 98, 99, 201, 202, 203, 204, 205, 206, 207, 208, 209, 210] (by decide +kernel) (by decide +kernel)
set_option maxRecDepth 20000 in
theorem gX1_isSame_X0_surelyToBlame : GoodIn wsX1_isSame (wsV RX1 119 RX0 yX0_surelyToBlame wsX0_surelyToBlame) := goodIn_app (goodIn_of _ (by decide +kernel)) ggX1_isSame_X0_surelyToBlame
set_option maxRecDepth 20000 in
theorem ggX1_isSame_X0_meanBlame : GoodIn wsX1_isSame wsX0_meanBlame := goodIn_r _ [196, 104, 105, 177, 178, 179, 180, 181, 182, 183, 201, 202, 203, 204, 205, 206, 207, 208, 209, 210] (by decide +kernel) (by decide +kernel)
set_option maxRecDepth 20000 in
theorem gX1_isSame_X0_meanBlame : GoodIn wsX1_isSame (wsV RX1 122 RX0 yX0_meanBlame wsX0_meanBlame) := goodIn_app (goodIn_of _ (by decide +kernel)) ggX1_isSame_X0_meanBlame
theorem dX1_isSame_0 : decode cX1_isSame 0 = .ok (.aload_n 0, 1) := by decide +kernel
theorem dX1_isSame_1 : decode cX1_isSame 1 = .ok (.invokevirtual 48, 3) := by decide +kernel
theorem dX1_isSame_4 : decode cX1_isSame 4 = .ok (.astore_n 2, 1) := by decide +kernel
theorem dX1_isSame_5 : decode cX1_isSame 5 = .ok (.iconst 0, 1) := by decide +kernel
theorem dX1_isSame_6 : decode cX1_isSame 6 = .ok (.istore_n 3, 1) := by decide +kernel
theorem dX1_isSame_7 : decode cX1_isSame 7 = .ok (.iconst 0, 1) := by decide +kernel
theorem dX1_isSame_8 : decode cX1_isSame 8 = .ok (.istore 4, 2) := by decide +kernel
theorem dX1_isSame_10 : decode cX1_isSame 10 = .ok (.iload 4, 2) := by decide +kernel
theorem dX1_isSame_12 : decode cX1_isSame 12 = .ok (.aload_n 0, 1) := by decide +kernel
theorem dX1_isSame_13 : decode cX1_isSame 13 = .ok (.getfield 9, 3) := by decide +kernel
theorem dX1_isSame_16 : decode cX1_isSame 16 = .ok (.arraylength, 1) := by decide +kernel
theorem dX1_isSame_17 : decode cX1_isSame 17 = .ok (.if_icmp .ge 68, 3) := by decide +kernel
theorem dX1_isSame_20 : decode cX1_isSame 20 = .ok (.aload_n 1, 1) := by decide +kernel
theorem dX1_isSame_21 : decode cX1_isSame 21 = .ok (.iload 4, 2) := by decide +kernel
theorem dX1_isSame_23 : decode cX1_isSame 23 = .ok (.invokevirtual 59, 3) := by decide +kernel
theorem dX1_isSame_26 : decode cX1_isSame 26 = .ok (.aload_n 0, 1) := by decide +kernel
theorem dX1_isSame_27 : decode cX1_isSame 27 = .ok (.getfield 9, 3) := by decide +kernel
theorem dX1_isSame_30 : decode cX1_isSame 30 = .ok (.iload 4, 2) := by decide +kernel
theorem dX1_isSame_32 : decode cX1_isSame 32 = .ok (.aaload, 1) := by decide +kernel
theorem dX1_isSame_33 : decode cX1_isSame 33 = .ok (.iconst 0, 1) := by decide +kernel
theorem dX1_isSame_34 : decode cX1_isSame 34 = .ok (.iaload, 1) := by decide +kernel
theorem dX1_isSame_35 : decode cX1_isSame 35 = .ok (.if_icmp .ne 30, 3) := by decide +kernel
theorem dX1_isSame_38 : decode cX1_isSame 38 = .ok (.aload_n 1, 1) := by decide +kernel
theorem dX1_isSame_39 : decode cX1_isSame 39 = .ok (.iload 4, 2) := by decide +kernel
theorem dX1_isSame_41 : decode cX1_isSame 41 = .ok (.invokevirtual 64, 3) := by decide +kernel
theorem dX1_isSame_44 : decode cX1_isSame 44 = .ok (.aload_n 0, 1) := by decide +kernel
theorem dX1_isSame_45 : decode cX1_isSame 45 = .ok (.getfield 9, 3) := by decide +kernel
theorem dX1_isSame_48 : decode cX1_isSame 48 = .ok (.iload 4, 2) := by decide +kernel
theorem dX1_isSame_50 : decode cX1_isSame 50 = .ok (.aaload, 1) := by decide +kernel
theorem dX1_isSame_51 : decode cX1_isSame 51 = .ok (.iconst 1, 1) := by decide +kernel
theorem dX1_isSame_52 : decode cX1_isSame 52 = .ok (.iaload, 1) := by decide +kernel
theorem dX1_isSame_53 : decode cX1_isSame 53 = .ok (.iconst 1, 1) := by decide +kernel
theorem dX1_isSame_54 : decode cX1_isSame 54 = .ok (.if_icmp .ne 7, 3) := by decide +kernel
theorem dX1_isSame_57 : decode cX1_isSame 57 = .ok (.iconst 1, 1) := by decide +kernel
theorem dX1_isSame_58 : decode cX1_isSame 58 = .ok (.goto 4, 3) := by decide +kernel
theorem dX1_isSame_61 : decode cX1_isSame 61 = .ok (.iconst 0, 1) := by decide +kernel
theorem dX1_isSame_62 : decode cX1_isSame 62 = .ok (.if_icmp .eq 5, 3) := by decide +kernel
theorem dX1_isSame_65 : decode cX1_isSame 65 = .ok (.iconst 0, 1) := by decide +kernel
theorem dX1_isSame_66 : decode cX1_isSame 66 = .ok (.ireturn, 1) := by decide +kernel
theorem dX1_isSame_67 : decode cX1_isSame 67 = .ok (.iload_n 3, 1) := by decide +kernel
theorem dX1_isSame_68 : decode cX1_isSame 68 = .ok (.aload_n 0, 1) := by decide +kernel
theorem dX1_isSame_69 : decode cX1_isSame 69 = .ok (.getfield 9, 3) := by decide +kernel
theorem dX1_isSame_72 : decode cX1_isSame 72 = .ok (.iload 4, 2) := by decide +kernel
theorem dX1_isSame_74 : decode cX1_isSame 74 = .ok (.aaload, 1) := by decide +kernel
theorem dX1_isSame_75 : decode cX1_isSame 75 = .ok (.iconst 1, 1) := by decide +kernel
theorem dX1_isSame_76 : decode cX1_isSame 76 = .ok (.iaload, 1) := by decide +kernel
theorem dX1_isSame_77 : decode cX1_isSame 77 = .ok (.iadd, 1) := by decide +kernel
theorem dX1_isSame_78 : decode cX1_isSame 78 = .ok (.istore_n 3, 1) := by decide +kernel
theorem dX1_isSame_79 : decode cX1_isSame 79 = .ok (.iinc 4 1, 3) := by decide +kernel
theorem dX1_isSame_82 : decode cX1_isSame 82 = .ok (.goto (-72), 3) := by decide +kernel
theorem dX1_isSame_85 : decode cX1_isSame 85 = .ok (.iconst 0, 1) := by decide +kernel
theorem dX1_isSame_86 : decode cX1_isSame 86 = .ok (.istore 4, 2) := by decide +kernel
theorem dX1_isSame_88 : decode cX1_isSame 88 = .ok (.aload_n 2, 1) := by decide +kernel
theorem dX1_isSame_89 : decode cX1_isSame 89 = .ok (.arraylength, 1) := by decide +kernel
theorem dX1_isSame_90 : decode cX1_isSame 90 = .ok (.ifCond .ne 7, 3) := by decide +kernel
theorem dX1_isSame_93 : decode cX1_isSame 93 = .ok (.iconst (-1), 1) := by decide +kernel
theorem dX1_isSame_94 : decode cX1_isSame 94 = .ok (.goto 4, 3) := by decide +kernel
theorem dX1_isSame_97 : decode cX1_isSame 97 = .ok (.iconst 0, 1) := by decide +kernel
theorem dX1_isSame_98 : decode cX1_isSame 98 = .ok (.istore 5, 2) := by decide +kernel
theorem dX1_isSame_100 : decode cX1_isSame 100 = .ok (.iconst 1, 1) := by decide +kernel
theorem dX1_isSame_101 : decode cX1_isSame 101 = .ok (.istore 6, 2) := by decide +kernel
theorem dX1_isSame_103 : decode cX1_isSame 103 = .ok (.iconst 0, 1) := by decide +kernel
theorem dX1_isSame_104 : decode cX1_isSame 104 = .ok (.istore 7, 2) := by decide +kernel
theorem dX1_isSame_106 : decode cX1_isSame 106 = .ok (.iload 7, 2) := by decide +kernel
theorem dX1_isSame_108 : decode cX1_isSame 108 = .ok (.aload_n 0, 1) := by decide +kernel
theorem dX1_isSame_109 : decode cX1_isSame 109 = .ok (.getfield 18, 3) := by decide +kernel
theorem dX1_isSame_112 : decode cX1_isSame 112 = .ok (.if_icmp .ge 283, 3) := by decide +kernel
theorem dX1_isSame_115 : decode cX1_isSame 115 = .ok (.iconst 0, 1) := by decide +kernel
theorem dX1_isSame_116 : decode cX1_isSame 116 = .ok (.istore 8, 2) := by decide +kernel
theorem dX1_isSame_118 : decode cX1_isSame 118 = .ok (.iconst 0, 1) := by decide +kernel
theorem dX1_isSame_119 : decode cX1_isSame 119 = .ok (.istore 9, 2) := by decide +kernel
theorem dX1_isSame_121 : decode cX1_isSame 121 = .ok (.iconst 0, 1) := by decide +kernel
theorem dX1_isSame_122 : decode cX1_isSame 122 = .ok (.istore 10, 2) := by decide +kernel
theorem dX1_isSame_124 : decode cX1_isSame 124 = .ok (.aload_n 2, 1) := by decide +kernel
theorem dX1_isSame_125 : decode cX1_isSame 125 = .ok (.astore 11, 2) := by decide +kernel
theorem dX1_isSame_127 : decode cX1_isSame 127 = .ok (.aload 11, 2) := by decide +kernel
theorem dX1_isSame_129 : decode cX1_isSame 129 = .ok (.arraylength, 1) := by decide +kernel
theorem dX1_isSame_130 : decode cX1_isSame 130 = .ok (.istore 12, 2) := by decide +kernel
theorem dX1_isSame_132 : decode cX1_isSame 132 = .ok (.iconst 0, 1) := by decide +kernel
theorem dX1_isSame_133 : decode cX1_isSame 133 = .ok (.istore 13, 2) := by decide +kernel
theorem dX1_isSame_135 : decode cX1_isSame 135 = .ok (.iload 13, 2) := by decide +kernel
theorem dX1_isSame_137 : decode cX1_isSame 137 = .ok (.iload 12, 2) := by decide +kernel
theorem dX1_isSame_139 : decode cX1_isSame 139 = .ok (.if_icmp .ge 36, 3) := by decide +kernel
theorem dX1_isSame_142 : decode cX1_isSame 142 = .ok (.aload 11, 2) := by decide +kernel
theorem dX1_isSame_144 : decode cX1_isSame 144 = .ok (.iload 13, 2) := by decide +kernel
theorem dX1_isSame_146 : decode cX1_isSame 146 = .ok (.iaload, 1) := by decide +kernel
theorem dX1_isSame_147 : decode cX1_isSame 147 = .ok (.istore 14, 2) := by decide +kernel
theorem dX1_isSame_149 : decode cX1_isSame 149 = .ok (.iload 8, 2) := by decide +kernel
theorem dX1_isSame_151 : decode cX1_isSame 151 = .ok (.iload 14, 2) := by decide +kernel
theorem dX1_isSame_153 : decode cX1_isSame 153 = .ok (.iload 7, 2) := by decide +kernel
theorem dX1_isSame_155 : decode cX1_isSame 155 = .ok (.invokestatic 22, 3) := by decide +kernel
theorem dX1_isSame_158 : decode cX1_isSame 158 = .ok (.ifCond .eq 7, 3) := by decide +kernel
theorem dX1_isSame_161 : decode cX1_isSame 161 = .ok (.iconst 1, 1) := by decide +kernel
theorem dX1_isSame_162 : decode cX1_isSame 162 = .ok (.goto 4, 3) := by decide +kernel
theorem dX1_isSame_165 : decode cX1_isSame 165 = .ok (.iconst 0, 1) := by decide +kernel
theorem dX1_isSame_166 : decode cX1_isSame 166 = .ok (.iadd, 1) := by decide +kernel
theorem dX1_isSame_167 : decode cX1_isSame 167 = .ok (.istore 8, 2) := by decide +kernel
theorem dX1_isSame_169 : decode cX1_isSame 169 = .ok (.iinc 13 1, 3) := by decide +kernel
theorem dX1_isSame_172 : decode cX1_isSame 172 = .ok (.goto (-37), 3) := by decide +kernel
theorem dX1_isSame_175 : decode cX1_isSame 175 = .ok (.aload_n 0, 1) := by decide +kernel
theorem dX1_isSame_176 : decode cX1_isSame 176 = .ok (.getfield 9, 3) := by decide +kernel
theorem dX1_isSame_179 : decode cX1_isSame 179 = .ok (.astore 11, 2) := by decide +kernel
theorem dX1_isSame_181 : decode cX1_isSame 181 = .ok (.aload 11, 2) := by decide +kernel
theorem dX1_isSame_183 : decode cX1_isSame 183 = .ok (.arraylength, 1) := by decide +kernel
theorem dX1_isSame_184 : decode cX1_isSame 184 = .ok (.istore 12, 2) := by decide +kernel
theorem dX1_isSame_186 : decode cX1_isSame 186 = .ok (.iconst 0, 1) := by decide +kernel
theorem dX1_isSame_187 : decode cX1_isSame 187 = .ok (.istore 13, 2) := by decide +kernel
theorem dX1_isSame_189 : decode cX1_isSame 189 = .ok (.iload 13, 2) := by decide +kernel
theorem dX1_isSame_191 : decode cX1_isSame 191 = .ok (.iload 12, 2) := by decide +kernel
theorem dX1_isSame_193 : decode cX1_isSame 193 = .ok (.if_icmp .ge 63, 3) := by decide +kernel
theorem dX1_isSame_196 : decode cX1_isSame 196 = .ok (.aload 11, 2) := by decide +kernel
theorem dX1_isSame_198 : decode cX1_isSame 198 = .ok (.iload 13, 2) := by decide +kernel
theorem dX1_isSame_200 : decode cX1_isSame 200 = .ok (.aaload, 1) := by decide +kernel
theorem dX1_isSame_201 : decode cX1_isSame 201 = .ok (.astore 14, 2) := by decide +kernel
theorem dX1_isSame_203 : decode cX1_isSame 203 = .ok (.iload 9, 2) := by decide +kernel
theorem dX1_isSame_205 : decode cX1_isSame 205 = .ok (.aload 14, 2) := by decide +kernel
theorem dX1_isSame_207 : decode cX1_isSame 207 = .ok (.iconst 0, 1) := by decide +kernel
theorem dX1_isSame_208 : decode cX1_isSame 208 = .ok (.iaload, 1) := by decide +kernel
theorem dX1_isSame_209 : decode cX1_isSame 209 = .ok (.iload 7, 2) := by decide +kernel
theorem dX1_isSame_211 : decode cX1_isSame 211 = .ok (.invokestatic 22, 3) := by decide +kernel
theorem dX1_isSame_214 : decode cX1_isSame 214 = .ok (.ifCond .eq 7, 3) := by decide +kernel
theorem dX1_isSame_217 : decode cX1_isSame 217 = .ok (.iconst 1, 1) := by decide +kernel
theorem dX1_isSame_218 : decode cX1_isSame 218 = .ok (.goto 4, 3) := by decide +kernel
theorem dX1_isSame_221 : decode cX1_isSame 221 = .ok (.iconst 0, 1) := by decide +kernel
theorem dX1_isSame_222 : decode cX1_isSame 222 = .ok (.iadd, 1) := by decide +kernel
theorem dX1_isSame_223 : decode cX1_isSame 223 = .ok (.istore 9, 2) := by decide +kernel
theorem dX1_isSame_225 : decode cX1_isSame 225 = .ok (.iload 10, 2) := by decide +kernel
theorem dX1_isSame_227 : decode cX1_isSame 227 = .ok (.aload 14, 2) := by decide +kernel
theorem dX1_isSame_229 : decode cX1_isSame 229 = .ok (.iconst 0, 1) := by decide +kernel
theorem dX1_isSame_230 : decode cX1_isSame 230 = .ok (.iaload, 1) := by decide +kernel
theorem dX1_isSame_231 : decode cX1_isSame 231 = .ok (.iload 7, 2) := by decide +kernel
theorem dX1_isSame_233 : decode cX1_isSame 233 = .ok (.invokestatic 22, 3) := by decide +kernel
theorem dX1_isSame_236 : decode cX1_isSame 236 = .ok (.ifCond .eq 10, 3) := by decide +kernel
theorem dX1_isSame_239 : decode cX1_isSame 239 = .ok (.aload 14, 2) := by decide +kernel
theorem dX1_isSame_241 : decode cX1_isSame 241 = .ok (.iconst 1, 1) := by decide +kernel
theorem dX1_isSame_242 : decode cX1_isSame 242 = .ok (.iaload, 1) := by decide +kernel
theorem dX1_isSame_243 : decode cX1_isSame 243 = .ok (.goto 4, 3) := by decide +kernel
theorem dX1_isSame_246 : decode cX1_isSame 246 = .ok (.iconst 0, 1) := by decide +kernel
theorem dX1_isSame_247 : decode cX1_isSame 247 = .ok (.iadd, 1) := by decide +kernel
theorem dX1_isSame_248 : decode cX1_isSame 248 = .ok (.istore 10, 2) := by decide +kernel
theorem dX1_isSame_250 : decode cX1_isSame 250 = .ok (.iinc 13 1, 3) := by decide +kernel
theorem dX1_isSame_253 : decode cX1_isSame 253 = .ok (.goto (-64), 3) := by decide +kernel
theorem dX1_isSame_256 : decode cX1_isSame 256 = .ok (.aload_n 1, 1) := by decide +kernel
theorem dX1_isSame_257 : decode cX1_isSame 257 = .ok (.iload 7, 2) := by decide +kernel
theorem dX1_isSame_259 : decode cX1_isSame 259 = .ok (.invokevirtual 67, 3) := by decide +kernel
theorem dX1_isSame_262 : decode cX1_isSame 262 = .ok (.iload 9, 2) := by decide +kernel
theorem dX1_isSame_264 : decode cX1_isSame 264 = .ok (.if_icmp .ne 70, 3) := by decide +kernel
theorem dX1_isSame_267 : decode cX1_isSame 267 = .ok (.aload_n 1, 1) := by decide +kernel
theorem dX1_isSame_268 : decode cX1_isSame 268 = .ok (.iload 7, 2) := by decide +kernel
theorem dX1_isSame_270 : decode cX1_isSame 270 = .ok (.invokevirtual 70, 3) := by decide +kernel
theorem dX1_isSame_273 : decode cX1_isSame 273 = .ok (.iload 10, 2) := by decide +kernel
theorem dX1_isSame_275 : decode cX1_isSame 275 = .ok (.if_icmp .ne 59, 3) := by decide +kernel
theorem dX1_isSame_278 : decode cX1_isSame 278 = .ok (.aload_n 1, 1) := by decide +kernel
theorem dX1_isSame_279 : decode cX1_isSame 279 = .ok (.iload 7, 2) := by decide +kernel
theorem dX1_isSame_281 : decode cX1_isSame 281 = .ok (.invokevirtual 73, 3) := by decide +kernel
theorem dX1_isSame_284 : decode cX1_isSame 284 = .ok (.aload_n 0, 1) := by decide +kernel
theorem dX1_isSame_285 : decode cX1_isSame 285 = .ok (.iload 7, 2) := by decide +kernel
theorem dX1_isSame_287 : decode cX1_isSame 287 = .ok (.invokevirtual 40, 3) := by decide +kernel
theorem dX1_isSame_290 : decode cX1_isSame 290 = .ok (.if_icmp .ne 44, 3) := by decide +kernel
theorem dX1_isSame_293 : decode cX1_isSame 293 = .ok (.aload_n 1, 1) := by decide +kernel
theorem dX1_isSame_294 : decode cX1_isSame 294 = .ok (.iload 7, 2) := by decide +kernel
theorem dX1_isSame_296 : decode cX1_isSame 296 = .ok (.invokevirtual 74, 3) := by decide +kernel
theorem dX1_isSame_299 : decode cX1_isSame 299 = .ok (.aload_n 0, 1) := by decide +kernel
theorem dX1_isSame_300 : decode cX1_isSame 300 = .ok (.iload 7, 2) := by decide +kernel
theorem dX1_isSame_302 : decode cX1_isSame 302 = .ok (.invokevirtual 77, 3) := by decide +kernel
theorem dX1_isSame_305 : decode cX1_isSame 305 = .ok (.if_icmp .ne 29, 3) := by decide +kernel
theorem dX1_isSame_308 : decode cX1_isSame 308 = .ok (.aload_n 1, 1) := by decide +kernel
theorem dX1_isSame_309 : decode cX1_isSame 309 = .ok (.iload 7, 2) := by decide +kernel
theorem dX1_isSame_311 : decode cX1_isSame 311 = .ok (.invokevirtual 78, 3) := by decide +kernel
theorem dX1_isSame_314 : decode cX1_isSame 314 = .ok (.iload 8, 2) := by decide +kernel
theorem dX1_isSame_316 : decode cX1_isSame 316 = .ok (.if_icmp .ne 18, 3) := by decide +kernel
theorem dX1_isSame_319 : decode cX1_isSame 319 = .ok (.aload_n 1, 1) := by decide +kernel
theorem dX1_isSame_320 : decode cX1_isSame 320 = .ok (.iload 7, 2) := by decide +kernel
theorem dX1_isSame_322 : decode cX1_isSame 322 = .ok (.invokevirtual 81, 3) := by decide +kernel
theorem dX1_isSame_325 : decode cX1_isSame 325 = .ok (.aload_n 0, 1) := by decide +kernel
theorem dX1_isSame_326 : decode cX1_isSame 326 = .ok (.iload 7, 2) := by decide +kernel
theorem dX1_isSame_328 : decode cX1_isSame 328 = .ok (.invokevirtual 84, 3) := by decide +kernel
theorem dX1_isSame_331 : decode cX1_isSame 331 = .ok (.if_icmp .eq 5, 3) := by decide +kernel
theorem dX1_isSame_334 : decode cX1_isSame 334 = .ok (.iconst 0, 1) := by decide +kernel
theorem dX1_isSame_335 : decode cX1_isSame 335 = .ok (.ireturn, 1) := by decide +kernel
theorem dX1_isSame_336 : decode cX1_isSame 336 = .ok (.aload_n 0, 1) := by decide +kernel
theorem dX1_isSame_337 : decode cX1_isSame 337 = .ok (.iload 7, 2) := by decide +kernel
theorem dX1_isSame_339 : decode cX1_isSame 339 = .ok (.invokevirtual 84, 3) := by decide +kernel
theorem dX1_isSame_342 : decode cX1_isSame 342 = .ok (.aload_n 0, 1) := by decide +kernel
theorem dX1_isSame_343 : decode cX1_isSame 343 = .ok (.getfield 15, 3) := by decide +kernel
theorem dX1_isSame_346 : decode cX1_isSame 346 = .ok (.arraylength, 1) := by decide +kernel
theorem dX1_isSame_347 : decode cX1_isSame 347 = .ok (.aload_n 0, 1) := by decide +kernel
theorem dX1_isSame_348 : decode cX1_isSame 348 = .ok (.iload 7, 2) := by decide +kernel
theorem dX1_isSame_350 : decode cX1_isSame 350 = .ok (.invokevirtual 84, 3) := by decide +kernel
theorem dX1_isSame_353 : decode cX1_isSame 353 = .ok (.isub, 1) := by decide +kernel
theorem dX1_isSame_354 : decode cX1_isSame 354 = .ok (.if_icmp .le 10, 3) := by decide +kernel
theorem dX1_isSame_357 : decode cX1_isSame 357 = .ok (.iload 4, 2) := by decide +kernel
theorem dX1_isSame_359 : decode cX1_isSame 359 = .ok (.iload 6, 2) := by decide +kernel
theorem dX1_isSame_361 : decode cX1_isSame 361 = .ok (.iadd, 1) := by decide +kernel
theorem dX1_isSame_362 : decode cX1_isSame 362 = .ok (.istore 4, 2) := by decide +kernel
theorem dX1_isSame_364 : decode cX1_isSame 364 = .ok (.aload_n 2, 1) := by decide +kernel
theorem dX1_isSame_365 : decode cX1_isSame 365 = .ok (.arraylength, 1) := by decide +kernel
theorem dX1_isSame_366 : decode cX1_isSame 366 = .ok (.ifCond .le 17, 3) := by decide +kernel
theorem dX1_isSame_369 : decode cX1_isSame 369 = .ok (.iload 8, 2) := by decide +kernel
theorem dX1_isSame_371 : decode cX1_isSame 371 = .ok (.aload_n 2, 1) := by decide +kernel
theorem dX1_isSame_372 : decode cX1_isSame 372 = .ok (.arraylength, 1) := by decide +kernel
theorem dX1_isSame_373 : decode cX1_isSame 373 = .ok (.if_icmp .ne 10, 3) := by decide +kernel
theorem dX1_isSame_376 : decode cX1_isSame 376 = .ok (.iload 5, 2) := by decide +kernel
theorem dX1_isSame_378 : decode cX1_isSame 378 = .ok (.iload 6, 2) := by decide +kernel
theorem dX1_isSame_380 : decode cX1_isSame 380 = .ok (.iadd, 1) := by decide +kernel
theorem dX1_isSame_381 : decode cX1_isSame 381 = .ok (.istore 5, 2) := by decide +kernel
theorem dX1_isSame_383 : decode cX1_isSame 383 = .ok (.iload 6, 2) := by decide +kernel
theorem dX1_isSame_385 : decode cX1_isSame 385 = .ok (.iconst 2, 1) := by decide +kernel
theorem dX1_isSame_386 : decode cX1_isSame 386 = .ok (.imul, 1) := by decide +kernel
theorem dX1_isSame_387 : decode cX1_isSame 387 = .ok (.istore 6, 2) := by decide +kernel
theorem dX1_isSame_389 : decode cX1_isSame 389 = .ok (.iinc 7 1, 3) := by decide +kernel
theorem dX1_isSame_392 : decode cX1_isSame 392 = .ok (.goto (-286), 3) := by decide +kernel
theorem dX1_isSame_395 : decode cX1_isSame 395 = .ok (.iconst 0, 1) := by decide +kernel
theorem dX1_isSame_396 : decode cX1_isSame 396 = .ok (.istore 7, 2) := by decide +kernel
theorem dX1_isSame_398 : decode cX1_isSame 398 = .ok (.iconst 0, 1) := by decide +kernel
theorem dX1_isSame_399 : decode cX1_isSame 399 = .ok (.istore 8, 2) := by decide +kernel
theorem dX1_isSame_401 : decode cX1_isSame 401 = .ok (.iload 8, 2) := by decide +kernel
theorem dX1_isSame_403 : decode cX1_isSame 403 = .ok (.aload_n 0, 1) := by decide +kernel
theorem dX1_isSame_404 : decode cX1_isSame 404 = .ok (.getfield 15, 3) := by decide +kernel
theorem dX1_isSame_407 : decode cX1_isSame 407 = .ok (.arraylength, 1) := by decide +kernel
theorem dX1_isSame_408 : decode cX1_isSame 408 = .ok (.if_icmp .ge 76, 3) := by decide +kernel
theorem dX1_isSame_411 : decode cX1_isSame 411 = .ok (.aload_n 0, 1) := by decide +kernel
theorem dX1_isSame_412 : decode cX1_isSame 412 = .ok (.getfield 15, 3) := by decide +kernel
theorem dX1_isSame_415 : decode cX1_isSame 415 = .ok (.iload 8, 2) := by decide +kernel
theorem dX1_isSame_417 : decode cX1_isSame 417 = .ok (.aaload, 1) := by decide +kernel
theorem dX1_isSame_418 : decode cX1_isSame 418 = .ok (.astore 9, 2) := by decide +kernel
theorem dX1_isSame_420 : decode cX1_isSame 420 = .ok (.aload_n 1, 1) := by decide +kernel
theorem dX1_isSame_421 : decode cX1_isSame 421 = .ok (.iload 8, 2) := by decide +kernel
theorem dX1_isSame_423 : decode cX1_isSame 423 = .ok (.invokevirtual 87, 3) := by decide +kernel
theorem dX1_isSame_426 : decode cX1_isSame 426 = .ok (.aload 9, 2) := by decide +kernel
theorem dX1_isSame_428 : decode cX1_isSame 428 = .ok (.iconst 0, 1) := by decide +kernel
theorem dX1_isSame_429 : decode cX1_isSame 429 = .ok (.iaload, 1) := by decide +kernel
theorem dX1_isSame_430 : decode cX1_isSame 430 = .ok (.if_icmp .ne 33, 3) := by decide +kernel
theorem dX1_isSame_433 : decode cX1_isSame 433 = .ok (.aload_n 1, 1) := by decide +kernel
theorem dX1_isSame_434 : decode cX1_isSame 434 = .ok (.iload 8, 2) := by decide +kernel
theorem dX1_isSame_436 : decode cX1_isSame 436 = .ok (.invokevirtual 90, 3) := by decide +kernel
theorem dX1_isSame_439 : decode cX1_isSame 439 = .ok (.aload 9, 2) := by decide +kernel
theorem dX1_isSame_441 : decode cX1_isSame 441 = .ok (.iconst 1, 1) := by decide +kernel
theorem dX1_isSame_442 : decode cX1_isSame 442 = .ok (.iaload, 1) := by decide +kernel
theorem dX1_isSame_443 : decode cX1_isSame 443 = .ok (.if_icmp .ne 20, 3) := by decide +kernel
theorem dX1_isSame_446 : decode cX1_isSame 446 = .ok (.aload_n 1, 1) := by decide +kernel
theorem dX1_isSame_447 : decode cX1_isSame 447 = .ok (.iload 8, 2) := by decide +kernel
theorem dX1_isSame_449 : decode cX1_isSame 449 = .ok (.invokevirtual 93, 3) := by decide +kernel
theorem dX1_isSame_452 : decode cX1_isSame 452 = .ok (.aload_n 0, 1) := by decide +kernel
theorem dX1_isSame_453 : decode cX1_isSame 453 = .ok (.aload 9, 2) := by decide +kernel
theorem dX1_isSame_455 : decode cX1_isSame 455 = .ok (.iconst 0, 1) := by decide +kernel
theorem dX1_isSame_456 : decode cX1_isSame 456 = .ok (.iaload, 1) := by decide +kernel
theorem dX1_isSame_457 : decode cX1_isSame 457 = .ok (.invokevirtual 33, 3) := by decide +kernel
theorem dX1_isSame_460 : decode cX1_isSame 460 = .ok (.if_icmp .eq 5, 3) := by decide +kernel
theorem dX1_isSame_463 : decode cX1_isSame 463 = .ok (.iconst 0, 1) := by decide +kernel
theorem dX1_isSame_464 : decode cX1_isSame 464 = .ok (.ireturn, 1) := by decide +kernel
theorem dX1_isSame_465 : decode cX1_isSame 465 = .ok (.iload 7, 2) := by decide +kernel
theorem dX1_isSame_467 : decode cX1_isSame 467 = .ok (.aload_n 0, 1) := by decide +kernel
theorem dX1_isSame_468 : decode cX1_isSame 468 = .ok (.aload 9, 2) := by decide +kernel
theorem dX1_isSame_470 : decode cX1_isSame 470 = .ok (.iconst 0, 1) := by decide +kernel
theorem dX1_isSame_471 : decode cX1_isSame 471 = .ok (.iaload, 1) := by decide +kernel
theorem dX1_isSame_472 : decode cX1_isSame 472 = .ok (.invokevirtual 37, 3) := by decide +kernel
theorem dX1_isSame_475 : decode cX1_isSame 475 = .ok (.iadd, 1) := by decide +kernel
theorem dX1_isSame_476 : decode cX1_isSame 476 = .ok (.istore 7, 2) := by decide +kernel
theorem dX1_isSame_478 : decode cX1_isSame 478 = .ok (.iinc 8 1, 3) := by decide +kernel
theorem dX1_isSame_481 : decode cX1_isSame 481 = .ok (.goto (-80), 3) := by decide +kernel
theorem dX1_isSame_484 : decode cX1_isSame 484 = .ok (.aload_n 1, 1) := by decide +kernel
theorem dX1_isSame_485 : decode cX1_isSame 485 = .ok (.invokevirtual 96, 3) := by decide +kernel
theorem dX1_isSame_488 : decode cX1_isSame 488 = .ok (.aload_n 0, 1) := by decide +kernel
theorem dX1_isSame_489 : decode cX1_isSame 489 = .ok (.getfield 18, 3) := by decide +kernel
theorem dX1_isSame_492 : decode cX1_isSame 492 = .ok (.if_icmp .ne 136, 3) := by decide +kernel
theorem dX1_isSame_495 : decode cX1_isSame 495 = .ok (.aload_n 1, 1) := by decide +kernel
theorem dX1_isSame_496 : decode cX1_isSame 496 = .ok (.invokevirtual 98, 3) := by decide +kernel
theorem dX1_isSame_499 : decode cX1_isSame 499 = .ok (.aload_n 0, 1) := by decide +kernel
theorem dX1_isSame_500 : decode cX1_isSame 500 = .ok (.getfield 9, 3) := by decide +kernel
theorem dX1_isSame_503 : decode cX1_isSame 503 = .ok (.arraylength, 1) := by decide +kernel
theorem dX1_isSame_504 : decode cX1_isSame 504 = .ok (.if_icmp .ne 124, 3) := by decide +kernel
theorem dX1_isSame_507 : decode cX1_isSame 507 = .ok (.aload_n 1, 1) := by decide +kernel
theorem dX1_isSame_508 : decode cX1_isSame 508 = .ok (.invokevirtual 100, 3) := by decide +kernel
theorem dX1_isSame_511 : decode cX1_isSame 511 = .ok (.iload_n 3, 1) := by decide +kernel
theorem dX1_isSame_512 : decode cX1_isSame 512 = .ok (.if_icmp .ne 116, 3) := by decide +kernel
theorem dX1_isSame_515 : decode cX1_isSame 515 = .ok (.aload_n 1, 1) := by decide +kernel
theorem dX1_isSame_516 : decode cX1_isSame 516 = .ok (.invokevirtual 103, 3) := by decide +kernel
theorem dX1_isSame_519 : decode cX1_isSame 519 = .ok (.aload_n 2, 1) := by decide +kernel
theorem dX1_isSame_520 : decode cX1_isSame 520 = .ok (.arraylength, 1) := by decide +kernel
theorem dX1_isSame_521 : decode cX1_isSame 521 = .ok (.ifCond .le 7, 3) := by decide +kernel
theorem dX1_isSame_524 : decode cX1_isSame 524 = .ok (.iconst 1, 1) := by decide +kernel
theorem dX1_isSame_525 : decode cX1_isSame 525 = .ok (.goto 4, 3) := by decide +kernel
theorem dX1_isSame_528 : decode cX1_isSame 528 = .ok (.iconst 0, 1) := by decide +kernel
theorem dX1_isSame_529 : decode cX1_isSame 529 = .ok (.if_icmp .ne 99, 3) := by decide +kernel
theorem dX1_isSame_532 : decode cX1_isSame 532 = .ok (.aload_n 1, 1) := by decide +kernel
theorem dX1_isSame_533 : decode cX1_isSame 533 = .ok (.invokevirtual 107, 3) := by decide +kernel
theorem dX1_isSame_536 : decode cX1_isSame 536 = .ok (.aload_n 0, 1) := by decide +kernel
theorem dX1_isSame_537 : decode cX1_isSame 537 = .ok (.getfield 15, 3) := by decide +kernel
theorem dX1_isSame_540 : decode cX1_isSame 540 = .ok (.arraylength, 1) := by decide +kernel
theorem dX1_isSame_541 : decode cX1_isSame 541 = .ok (.if_icmp .ne 87, 3) := by decide +kernel
theorem dX1_isSame_544 : decode cX1_isSame 544 = .ok (.aload_n 1, 1) := by decide +kernel
theorem dX1_isSame_545 : decode cX1_isSame 545 = .ok (.invokevirtual 109, 3) := by decide +kernel
theorem dX1_isSame_548 : decode cX1_isSame 548 = .ok (.iload 4, 2) := by decide +kernel
theorem dX1_isSame_550 : decode cX1_isSame 550 = .ok (.if_icmp .ne 78, 3) := by decide +kernel
theorem dX1_isSame_553 : decode cX1_isSame 553 = .ok (.aload_n 1, 1) := by decide +kernel
theorem dX1_isSame_554 : decode cX1_isSame 554 = .ok (.invokevirtual 112, 3) := by decide +kernel
theorem dX1_isSame_557 : decode cX1_isSame 557 = .ok (.aload_n 0, 1) := by decide +kernel
theorem dX1_isSame_558 : decode cX1_isSame 558 = .ok (.getfield 56, 3) := by decide +kernel
theorem dX1_isSame_561 : decode cX1_isSame 561 = .ok (.if_icmp .ne 67, 3) := by decide +kernel
theorem dX1_isSame_564 : decode cX1_isSame 564 = .ok (.aload_n 1, 1) := by decide +kernel
theorem dX1_isSame_565 : decode cX1_isSame 565 = .ok (.invokevirtual 115, 3) := by decide +kernel
theorem dX1_isSame_568 : decode cX1_isSame 568 = .ok (.aload_n 2, 1) := by decide +kernel
theorem dX1_isSame_569 : decode cX1_isSame 569 = .ok (.arraylength, 1) := by decide +kernel
theorem dX1_isSame_570 : decode cX1_isSame 570 = .ok (.if_icmp .ne 58, 3) := by decide +kernel
theorem dX1_isSame_573 : decode cX1_isSame 573 = .ok (.aload_n 1, 1) := by decide +kernel
theorem dX1_isSame_574 : decode cX1_isSame 574 = .ok (.invokevirtual 117, 3) := by decide +kernel
theorem dX1_isSame_577 : decode cX1_isSame 577 = .ok (.aload_n 0, 1) := by decide +kernel
theorem dX1_isSame_578 : decode cX1_isSame 578 = .ok (.aload_n 2, 1) := by decide +kernel
theorem dX1_isSame_579 : decode cX1_isSame 579 = .ok (.invokevirtual 52, 3) := by decide +kernel
theorem dX1_isSame_582 : decode cX1_isSame 582 = .ok (.if_icmp .ne 46, 3) := by decide +kernel
theorem dX1_isSame_585 : decode cX1_isSame 585 = .ok (.aload_n 1, 1) := by decide +kernel
theorem dX1_isSame_586 : decode cX1_isSame 586 = .ok (.invokevirtual 119, 3) := by decide +kernel
theorem dX1_isSame_589 : decode cX1_isSame 589 = .ok (.iload 5, 2) := by decide +kernel
theorem dX1_isSame_591 : decode cX1_isSame 591 = .ok (.if_icmp .ne 37, 3) := by decide +kernel
theorem dX1_isSame_594 : decode cX1_isSame 594 = .ok (.aload_n 1, 1) := by decide +kernel
theorem dX1_isSame_595 : decode cX1_isSame 595 = .ok (.invokevirtual 122, 3) := by decide +kernel
theorem dX1_isSame_598 : decode cX1_isSame 598 = .ok (.aload_n 0, 1) := by decide +kernel
theorem dX1_isSame_599 : decode cX1_isSame 599 = .ok (.getfield 15, 3) := by decide +kernel
theorem dX1_isSame_602 : decode cX1_isSame 602 = .ok (.arraylength, 1) := by decide +kernel
theorem dX1_isSame_603 : decode cX1_isSame 603 = .ok (.ifCond .ne 7, 3) := by decide +kernel
theorem dX1_isSame_606 : decode cX1_isSame 606 = .ok (.dconst 0, 1) := by decide +kernel
theorem dX1_isSame_607 : decode cX1_isSame 607 = .ok (.goto 13, 3) := by decide +kernel
theorem dX1_isSame_610 : decode cX1_isSame 610 = .ok (.iload 7, 2) := by decide +kernel
theorem dX1_isSame_612 : decode cX1_isSame 612 = .ok (.i2d, 1) := by decide +kernel
theorem dX1_isSame_613 : decode cX1_isSame 613 = .ok (.aload_n 0, 1) := by decide +kernel
theorem dX1_isSame_614 : decode cX1_isSame 614 = .ok (.getfield 15, 3) := by decide +kernel
theorem dX1_isSame_617 : decode cX1_isSame 617 = .ok (.arraylength, 1) := by decide +kernel
theorem dX1_isSame_618 : decode cX1_isSame 618 = .ok (.i2d, 1) := by decide +kernel
theorem dX1_isSame_619 : decode cX1_isSame 619 = .ok (.ddiv, 1) := by decide +kernel
theorem dX1_isSame_620 : decode cX1_isSame 620 = .ok (.dcmp .l, 1) := by decide +kernel
theorem dX1_isSame_621 : decode cX1_isSame 621 = .ok (.ifCond .ne 7, 3) := by decide +kernel
theorem dX1_isSame_624 : decode cX1_isSame 624 = .ok (.iconst 1, 1) := by decide +kernel
theorem dX1_isSame_625 : decode cX1_isSame 625 = .ok (.goto 4, 3) := by decide +kernel
theorem dX1_isSame_628 : decode cX1_isSame 628 = .ok (.iconst 0, 1) := by decide +kernel
theorem dX1_isSame_629 : decode cX1_isSame 629 = .ok (.ireturn, 1) := by decide +kernel
