theorem dX1_init_0 : decode cX1_init 0 = .ok (.aload_n 0, 1) := by decide +kernel
theorem dX1_init_1 : decode cX1_init 1 = .ok (.invokespecial 1, 3) := by decide +kernel
theorem dX1_init_4 : decode cX1_init 4 = .ok (.aload_n 0, 1) := by decide +kernel
theorem dX1_init_5 : decode cX1_init 5 = .ok (.bipush 40, 2) := by decide +kernel
theorem dX1_init_7 : decode cX1_init 7 = .ok (.newarray .int, 2) := by decide +kernel
theorem dX1_init_9 : decode cX1_init 9 = .ok (.putfield 9, 3) := by decide +kernel
theorem dX1_init_12 : decode cX1_init 12 = .ok (.aload_n 0, 1) := by decide +kernel
theorem dX1_init_13 : decode cX1_init 13 = .ok (.bipush 40, 2) := by decide +kernel
theorem dX1_init_15 : decode cX1_init 15 = .ok (.newarray .boolean, 2) := by decide +kernel
theorem dX1_init_17 : decode cX1_init 17 = .ok (.putfield 13, 3) := by decide +kernel
theorem dX1_init_20 : decode cX1_init 20 = .ok (.aload_n 0, 1) := by decide +kernel
theorem dX1_init_21 : decode cX1_init 21 = .ok (.bipush 8, 2) := by decide +kernel
theorem dX1_init_23 : decode cX1_init 23 = .ok (.newarray .int, 2) := by decide +kernel
theorem dX1_init_25 : decode cX1_init 25 = .ok (.putfield 17, 3) := by decide +kernel
theorem dX1_init_28 : decode cX1_init 28 = .ok (.aload_n 0, 1) := by decide +kernel
theorem dX1_init_29 : decode cX1_init 29 = .ok (.bipush 8, 2) := by decide +kernel
theorem dX1_init_31 : decode cX1_init 31 = .ok (.newarray .int, 2) := by decide +kernel
theorem dX1_init_33 : decode cX1_init 33 = .ok (.putfield 20, 3) := by decide +kernel
theorem dX1_init_36 : decode cX1_init 36 = .ok (.aload_n 0, 1) := by decide +kernel
theorem dX1_init_37 : decode cX1_init 37 = .ok (.bipush 8, 2) := by decide +kernel
theorem dX1_init_39 : decode cX1_init 39 = .ok (.newarray .int, 2) := by decide +kernel
theorem dX1_init_41 : decode cX1_init 41 = .ok (.putfield 23, 3) := by decide +kernel
theorem dX1_init_44 : decode cX1_init 44 = .ok (.return_, 1) := by decide +kernel
theorem dX1_thrown_0 : decode cX1_thrown 0 = .ok (.aload_n 0, 1) := by decide +kernel
theorem dX1_thrown_1 : decode cX1_thrown 1 = .ok (.getfield 26, 3) := by decide +kernel
theorem dX1_thrown_4 : decode cX1_thrown 4 = .ok (.ireturn, 1) := by decide +kernel
theorem dX1_no_0 : decode cX1_no 0 = .ok (.aload_n 0, 1) := by decide +kernel
theorem dX1_no_1 : decode cX1_no 1 = .ok (.iload_n 1, 1) := by decide +kernel
theorem dX1_no_2 : decode cX1_no 2 = .ok (.putfield 26, 3) := by decide +kernel
theorem dX1_no_5 : decode cX1_no 5 = .ok (.iconst 0, 1) := by decide +kernel
theorem dX1_no_6 : decode cX1_no 6 = .ok (.ireturn, 1) := by decide +kernel
theorem dX1_isNot_0 : decode cX1_isNot 0 = .ok (.aload_n 0, 1) := by decide +kernel
theorem dX1_isNot_1 : decode cX1_isNot 1 = .ok (.iload_n 1, 1) := by decide +kernel
theorem dX1_isNot_2 : decode cX1_isNot 2 = .ok (.putfield 26, 3) := by decide +kernel
theorem dX1_isNot_5 : decode cX1_isNot 5 = .ok (.iconst 0, 1) := by decide +kernel
theorem dX1_isNot_6 : decode cX1_isNot 6 = .ok (.ireturn, 1) := by decide +kernel
theorem dX1_ok_0 : decode cX1_ok 0 = .ok (.aload_n 0, 1) := by decide +kernel
theorem dX1_ok_1 : decode cX1_ok 1 = .ok (.iconst 0, 1) := by decide +kernel
theorem dX1_ok_2 : decode cX1_ok 2 = .ok (.putfield 26, 3) := by decide +kernel
theorem dX1_ok_5 : decode cX1_ok 5 = .ok (.iload_n 1, 1) := by decide +kernel
theorem dX1_ok_6 : decode cX1_ok 6 = .ok (.ireturn, 1) := by decide +kernel
theorem dX1_isIn_0 : decode cX1_isIn 0 = .ok (.iload_n 0, 1) := by decide +kernel
theorem dX1_isIn_1 : decode cX1_isIn 1 = .ok (.iload_n 1, 1) := by decide +kernel
theorem dX1_isIn_2 : decode cX1_isIn 2 = .ok (.if_icmp .lt 12, 3) := by decide +kernel
theorem dX1_isIn_5 : decode cX1_isIn 5 = .ok (.iload_n 0, 1) := by decide +kernel
theorem dX1_isIn_6 : decode cX1_isIn 6 = .ok (.iload_n 2, 1) := by decide +kernel
theorem dX1_isIn_7 : decode cX1_isIn 7 = .ok (.if_icmp .gt 7, 3) := by decide +kernel
theorem dX1_isIn_10 : decode cX1_isIn 10 = .ok (.iconst 1, 1) := by decide +kernel
theorem dX1_isIn_11 : decode cX1_isIn 11 = .ok (.goto 4, 3) := by decide +kernel
theorem dX1_isIn_14 : decode cX1_isIn 14 = .ok (.iconst 0, 1) := by decide +kernel
theorem dX1_isIn_15 : decode cX1_isIn 15 = .ok (.ireturn, 1) := by decide +kernel
theorem dX1_has_0 : decode cX1_has 0 = .ok (.iload_n 0, 1) := by decide +kernel
theorem dX1_has_1 : decode cX1_has 1 = .ok (.iload_n 1, 1) := by decide +kernel
theorem dX1_has_2 : decode cX1_has 2 = .ok (.ishr, 1) := by decide +kernel
theorem dX1_has_3 : decode cX1_has 3 = .ok (.iconst 1, 1) := by decide +kernel
theorem dX1_has_4 : decode cX1_has 4 = .ok (.iand, 1) := by decide +kernel
theorem dX1_has_5 : decode cX1_has 5 = .ok (.iconst 1, 1) := by decide +kernel
theorem dX1_has_6 : decode cX1_has 6 = .ok (.if_icmp .ne 7, 3) := by decide +kernel
theorem dX1_has_9 : decode cX1_has 9 = .ok (.iconst 1, 1) := by decide +kernel
theorem dX1_has_10 : decode cX1_has 10 = .ok (.goto 4, 3) := by decide +kernel
theorem dX1_has_13 : decode cX1_has 13 = .ok (.iconst 0, 1) := by decide +kernel
theorem dX1_has_14 : decode cX1_has 14 = .ok (.ireturn, 1) := by decide +kernel
theorem dX1_all_0 : decode cX1_all 0 = .ok (.iconst 1, 1) := by decide +kernel
theorem dX1_all_1 : decode cX1_all 1 = .ok (.aload_n 0, 1) := by decide +kernel
theorem dX1_all_2 : decode cX1_all 2 = .ok (.getfield 30, 3) := by decide +kernel
theorem dX1_all_5 : decode cX1_all 5 = .ok (.ishl, 1) := by decide +kernel
theorem dX1_all_6 : decode cX1_all 6 = .ok (.iconst 1, 1) := by decide +kernel
theorem dX1_all_7 : decode cX1_all 7 = .ok (.isub, 1) := by decide +kernel
theorem dX1_all_8 : decode cX1_all 8 = .ok (.ireturn, 1) := by decide +kernel
set_option maxRecDepth 20000 in
theorem ggX1_isThing_X1_isIn : GoodIn wsX1_isThing wsX1_isIn := goodIn_r _ [5] (by decide +kernel) (by decide +kernel)
set_option maxRecDepth 20000 in
theorem gX1_isThing_X1_isIn : GoodIn wsX1_isThing (va_wsS RX1 33 yX1_isIn wsX1_isIn) := goodIn_app (goodIn_of _ (by decide +kernel)) ggX1_isThing_X1_isIn
theorem dX1_isThing_0 : decode cX1_isThing 0 = .ok (.iload_n 1, 1) := by decide +kernel
theorem dX1_isThing_1 : decode cX1_isThing 1 = .ok (.iconst 0, 1) := by decide +kernel
theorem dX1_isThing_2 : decode cX1_isThing 2 = .ok (.aload_n 0, 1) := by decide +kernel
theorem dX1_isThing_3 : decode cX1_isThing 3 = .ok (.getfield 30, 3) := by decide +kernel
theorem dX1_isThing_6 : decode cX1_isThing 6 = .ok (.iconst 1, 1) := by decide +kernel
theorem dX1_isThing_7 : decode cX1_isThing 7 = .ok (.isub, 1) := by decide +kernel
theorem dX1_isThing_8 : decode cX1_isThing 8 = .ok (.invokestatic 33, 3) := by decide +kernel
theorem dX1_isThing_11 : decode cX1_isThing 11 = .ok (.ireturn, 1) := by decide +kernel
set_option maxRecDepth 20000 in
theorem ggX1_isNight_X1_isIn : GoodIn wsX1_isNight wsX1_isIn := goodIn_r _ [5] (by decide +kernel) (by decide +kernel)
set_option maxRecDepth 20000 in
theorem gX1_isNight_X1_isIn : GoodIn wsX1_isNight (va_wsS RX1 33 yX1_isIn wsX1_isIn) := goodIn_app (goodIn_of _ (by decide +kernel)) ggX1_isNight_X1_isIn
theorem dX1_isNight_0 : decode cX1_isNight 0 = .ok (.iload_n 1, 1) := by decide +kernel
theorem dX1_isNight_1 : decode cX1_isNight 1 = .ok (.iconst 0, 1) := by decide +kernel
theorem dX1_isNight_2 : decode cX1_isNight 2 = .ok (.aload_n 0, 1) := by decide +kernel
theorem dX1_isNight_3 : decode cX1_isNight 3 = .ok (.getfield 37, 3) := by decide +kernel
theorem dX1_isNight_6 : decode cX1_isNight 6 = .ok (.iconst 1, 1) := by decide +kernel
theorem dX1_isNight_7 : decode cX1_isNight 7 = .ok (.isub, 1) := by decide +kernel
theorem dX1_isNight_8 : decode cX1_isNight 8 = .ok (.invokestatic 33, 3) := by decide +kernel
theorem dX1_isNight_11 : decode cX1_isNight 11 = .ok (.ireturn, 1) := by decide +kernel
set_option maxRecDepth 20000 in
theorem ggX1_isAstronomer_X1_isIn : GoodIn wsX1_isAstronomer wsX1_isIn := goodIn_r _ [5] (by decide +kernel) (by decide +kernel)
set_option maxRecDepth 20000 in
theorem gX1_isAstronomer_X1_isIn : GoodIn wsX1_isAstronomer (va_wsS RX1 33 yX1_isIn wsX1_isIn) := goodIn_app (goodIn_of _ (by decide +kernel)) ggX1_isAstronomer_X1_isIn
theorem dX1_isAstronomer_0 : decode cX1_isAstronomer 0 = .ok (.iload_n 1, 1) := by decide +kernel
theorem dX1_isAstronomer_1 : decode cX1_isAstronomer 1 = .ok (.iconst 0, 1) := by decide +kernel
theorem dX1_isAstronomer_2 : decode cX1_isAstronomer 2 = .ok (.aload_n 0, 1) := by decide +kernel
theorem dX1_isAstronomer_3 : decode cX1_isAstronomer 3 = .ok (.getfield 40, 3) := by decide +kernel
theorem dX1_isAstronomer_6 : decode cX1_isAstronomer 6 = .ok (.iconst 1, 1) := by decide +kernel
theorem dX1_isAstronomer_7 : decode cX1_isAstronomer 7 = .ok (.isub, 1) := by decide +kernel
theorem dX1_isAstronomer_8 : decode cX1_isAstronomer 8 = .ok (.invokestatic 33, 3) := by decide +kernel
theorem dX1_isAstronomer_11 : decode cX1_isAstronomer 11 = .ok (.ireturn, 1) := by decide +kernel
theorem dX1_explains_0 : decode cX1_explains 0 = .ok (.iload_n 0, 1) := by decide +kernel
theorem dX1_explains_1 : decode cX1_explains 1 = .ok (.iload_n 1, 1) := by decide +kernel
theorem dX1_explains_2 : decode cX1_explains 2 = .ok (.iand, 1) := by decide +kernel
theorem dX1_explains_3 : decode cX1_explains 3 = .ok (.ifCond .eq 7, 3) := by decide +kernel
theorem dX1_explains_6 : decode cX1_explains 6 = .ok (.iconst 1, 1) := by decide +kernel
theorem dX1_explains_7 : decode cX1_explains 7 = .ok (.goto 4, 3) := by decide +kernel
theorem dX1_explains_10 : decode cX1_explains 10 = .ok (.iconst 0, 1) := by decide +kernel
theorem dX1_explains_11 : decode cX1_explains 11 = .ok (.iload_n 2, 1) := by decide +kernel
theorem dX1_explains_12 : decode cX1_explains 12 = .ok (.if_icmp .ne 7, 3) := by decide +kernel
theorem dX1_explains_15 : decode cX1_explains 15 = .ok (.iconst 1, 1) := by decide +kernel
theorem dX1_explains_16 : decode cX1_explains 16 = .ok (.goto 4, 3) := by decide +kernel
theorem dX1_explains_19 : decode cX1_explains 19 = .ok (.iconst 0, 1) := by decide +kernel
theorem dX1_explains_20 : decode cX1_explains 20 = .ok (.ireturn, 1) := by decide +kernel
set_option maxRecDepth 20000 in
theorem ggX1_unexplained_X1_explains : GoodIn wsX1_unexplained wsX1_explains := goodIn_r _ [7] (by decide +kernel) (by decide +kernel)
set_option maxRecDepth 20000 in
theorem gX1_unexplained_X1_explains : GoodIn wsX1_unexplained (va_wsS RX1 43 yX1_explains wsX1_explains) := goodIn_app (goodIn_of _ (by decide +kernel)) ggX1_unexplained_X1_explains
theorem dX1_unexplained_0 : decode cX1_unexplained 0 = .ok (.iconst 0, 1) := by decide +kernel
theorem dX1_unexplained_1 : decode cX1_unexplained 1 = .ok (.istore_n 2, 1) := by decide +kernel
theorem dX1_unexplained_2 : decode cX1_unexplained 2 = .ok (.iconst 0, 1) := by decide +kernel
theorem dX1_unexplained_3 : decode cX1_unexplained 3 = .ok (.istore_n 3, 1) := by decide +kernel
theorem dX1_unexplained_4 : decode cX1_unexplained 4 = .ok (.iload_n 3, 1) := by decide +kernel
theorem dX1_unexplained_5 : decode cX1_unexplained 5 = .ok (.aload_n 0, 1) := by decide +kernel
theorem dX1_unexplained_6 : decode cX1_unexplained 6 = .ok (.getfield 37, 3) := by decide +kernel
theorem dX1_unexplained_9 : decode cX1_unexplained 9 = .ok (.if_icmp .ge 36, 3) := by decide +kernel
theorem dX1_unexplained_12 : decode cX1_unexplained 12 = .ok (.iload_n 2, 1) := by decide +kernel
theorem dX1_unexplained_13 : decode cX1_unexplained 13 = .ok (.iload_n 1, 1) := by decide +kernel
theorem dX1_unexplained_14 : decode cX1_unexplained 14 = .ok (.aload_n 0, 1) := by decide +kernel
theorem dX1_unexplained_15 : decode cX1_unexplained 15 = .ok (.getfield 9, 3) := by decide +kernel
theorem dX1_unexplained_18 : decode cX1_unexplained 18 = .ok (.iload_n 3, 1) := by decide +kernel
theorem dX1_unexplained_19 : decode cX1_unexplained 19 = .ok (.iaload, 1) := by decide +kernel
theorem dX1_unexplained_20 : decode cX1_unexplained 20 = .ok (.aload_n 0, 1) := by decide +kernel
theorem dX1_unexplained_21 : decode cX1_unexplained 21 = .ok (.getfield 13, 3) := by decide +kernel
theorem dX1_unexplained_24 : decode cX1_unexplained 24 = .ok (.iload_n 3, 1) := by decide +kernel
theorem dX1_unexplained_25 : decode cX1_unexplained 25 = .ok (.baload, 1) := by decide +kernel
theorem dX1_unexplained_26 : decode cX1_unexplained 26 = .ok (.invokestatic 43, 3) := by decide +kernel
theorem dX1_unexplained_29 : decode cX1_unexplained 29 = .ok (.ifCond .eq 7, 3) := by decide +kernel
theorem dX1_unexplained_32 : decode cX1_unexplained 32 = .ok (.iconst 0, 1) := by decide +kernel
theorem dX1_unexplained_33 : decode cX1_unexplained 33 = .ok (.goto 4, 3) := by decide +kernel
theorem dX1_unexplained_36 : decode cX1_unexplained 36 = .ok (.iconst 1, 1) := by decide +kernel
theorem dX1_unexplained_37 : decode cX1_unexplained 37 = .ok (.iadd, 1) := by decide +kernel
theorem dX1_unexplained_38 : decode cX1_unexplained 38 = .ok (.istore_n 2, 1) := by decide +kernel
theorem dX1_unexplained_39 : decode cX1_unexplained 39 = .ok (.iinc 3 1, 3) := by decide +kernel
theorem dX1_unexplained_42 : decode cX1_unexplained 42 = .ok (.goto (-38), 3) := by decide +kernel
theorem dX1_unexplained_45 : decode cX1_unexplained 45 = .ok (.iload_n 2, 1) := by decide +kernel
theorem dX1_unexplained_46 : decode cX1_unexplained 46 = .ok (.ireturn, 1) := by decide +kernel
set_option maxRecDepth 20000 in
theorem ggX1_explaining_X1_all : GoodIn wsX1_explaining wsX1_all := goodIn_r _ [5, 6, 17, 18, 19, 20, 21, 22, 23, 24, 25, 26] (by decide +kernel) (by decide +kernel)
set_option maxRecDepth 20000 in
theorem gX1_explaining_X1_all : GoodIn wsX1_explaining (wsV RX1 47 RX1 yX1_all wsX1_all) := goodIn_app (goodIn_of _ (by decide +kernel)) ggX1_explaining_X1_all
set_option maxRecDepth 20000 in
theorem ggX1_explaining_X1_unexplained : GoodIn wsX1_explaining wsX1_unexplained := goodIn_r _ [10, 11, 12, 13, 14, 15, 4, 16, 17, 18, 19, 20, 21, 22, 23, 24, 25, 26] (by decide +kernel) (by decide +kernel)
set_option maxRecDepth 20000 in
theorem gX1_explaining_X1_unexplained : GoodIn wsX1_explaining (wsV RX1 51 RX1 yX1_unexplained wsX1_unexplained) := goodIn_app (goodIn_of _ (by decide +kernel)) ggX1_explaining_X1_unexplained
theorem dX1_explaining_0 : decode cX1_explaining 0 = .ok (.iconst 0, 1) := by decide +kernel
theorem dX1_explaining_1 : decode cX1_explaining 1 = .ok (.istore_n 1, 1) := by decide +kernel
theorem dX1_explaining_2 : decode cX1_explaining 2 = .ok (.iconst 0, 1) := by decide +kernel
theorem dX1_explaining_3 : decode cX1_explaining 3 = .ok (.istore_n 2, 1) := by decide +kernel
theorem dX1_explaining_4 : decode cX1_explaining 4 = .ok (.iload_n 2, 1) := by decide +kernel
theorem dX1_explaining_5 : decode cX1_explaining 5 = .ok (.aload_n 0, 1) := by decide +kernel
theorem dX1_explaining_6 : decode cX1_explaining 6 = .ok (.invokevirtual 47, 3) := by decide +kernel
theorem dX1_explaining_9 : decode cX1_explaining 9 = .ok (.if_icmp .gt 25, 3) := by decide +kernel
theorem dX1_explaining_12 : decode cX1_explaining 12 = .ok (.iload_n 1, 1) := by decide +kernel
theorem dX1_explaining_13 : decode cX1_explaining 13 = .ok (.aload_n 0, 1) := by decide +kernel
theorem dX1_explaining_14 : decode cX1_explaining 14 = .ok (.iload_n 2, 1) := by decide +kernel
theorem dX1_explaining_15 : decode cX1_explaining 15 = .ok (.invokevirtual 51, 3) := by decide +kernel
theorem dX1_explaining_18 : decode cX1_explaining 18 = .ok (.ifCond .ne 7, 3) := by decide +kernel
theorem dX1_explaining_21 : decode cX1_explaining 21 = .ok (.iconst 1, 1) := by decide +kernel
theorem dX1_explaining_22 : decode cX1_explaining 22 = .ok (.goto 4, 3) := by decide +kernel
theorem dX1_explaining_25 : decode cX1_explaining 25 = .ok (.iconst 0, 1) := by decide +kernel
theorem dX1_explaining_26 : decode cX1_explaining 26 = .ok (.iadd, 1) := by decide +kernel
theorem dX1_explaining_27 : decode cX1_explaining 27 = .ok (.istore_n 1, 1) := by decide +kernel
theorem dX1_explaining_28 : decode cX1_explaining 28 = .ok (.iinc 2 1, 3) := by decide +kernel
theorem dX1_explaining_31 : decode cX1_explaining 31 = .ok (.goto (-27), 3) := by decide +kernel
theorem dX1_explaining_34 : decode cX1_explaining 34 = .ok (.iload_n 1, 1) := by decide +kernel
theorem dX1_explaining_35 : decode cX1_explaining 35 = .ok (.ireturn, 1) := by decide +kernel
set_option maxRecDepth 20000 in
theorem ggX1_fewest_X1_all : GoodIn wsX1_fewest wsX1_all := goodIn_r _ [5, 6, 24, 25, 26, 27, 28, 29, 30, 31, 32, 33] (by decide +kernel) (by decide +kernel)
set_option maxRecDepth 20000 in
theorem gX1_fewest_X1_all : GoodIn wsX1_fewest (wsV RX1 47 RX1 yX1_all wsX1_all) := goodIn_app (goodIn_of _ (by decide +kernel)) ggX1_fewest_X1_all
set_option maxRecDepth 20000 in
theorem ggX1_fewest_X1_unexplained : GoodIn wsX1_fewest wsX1_unexplained := goodIn_r _ [10, 11, 12, 13, 14, 15, 4, 16, 24, 25, 26, 27, 28, 29, 30, 31, 32, 33] (by decide +kernel) (by decide +kernel)
set_option maxRecDepth 20000 in
theorem gX1_fewest_X1_unexplained : GoodIn wsX1_fewest (wsV RX1 51 RX1 yX1_unexplained wsX1_unexplained) := goodIn_app (goodIn_of _ (by decide +kernel)) ggX1_fewest_X1_unexplained
set_option maxRecDepth 20000 in
theorem ggX1_fewest_J6_bitCount_0f7a4 : GoodIn wsX1_fewest wsJ6_bitCount_0f7a4 := goodIn_r _ [20, 21, 22, 23] (by decide +kernel) (by decide +kernel)
set_option maxRecDepth 20000 in
theorem gX1_fewest_J6_bitCount_0f7a4 : GoodIn wsX1_fewest (va_wsS RX1 55 yJ6_bitCount_0f7a4 wsJ6_bitCount_0f7a4) := goodIn_app (goodIn_of _ (by decide +kernel)) ggX1_fewest_J6_bitCount_0f7a4
theorem dX1_fewest_0 : decode cX1_fewest 0 = .ok (.iconst (-1), 1) := by decide +kernel
theorem dX1_fewest_1 : decode cX1_fewest 1 = .ok (.istore_n 1, 1) := by decide +kernel
theorem dX1_fewest_2 : decode cX1_fewest 2 = .ok (.iconst 0, 1) := by decide +kernel
theorem dX1_fewest_3 : decode cX1_fewest 3 = .ok (.istore_n 2, 1) := by decide +kernel
theorem dX1_fewest_4 : decode cX1_fewest 4 = .ok (.iload_n 2, 1) := by decide +kernel
theorem dX1_fewest_5 : decode cX1_fewest 5 = .ok (.aload_n 0, 1) := by decide +kernel
theorem dX1_fewest_6 : decode cX1_fewest 6 = .ok (.invokevirtual 47, 3) := by decide +kernel
theorem dX1_fewest_9 : decode cX1_fewest 9 = .ok (.if_icmp .gt 35, 3) := by decide +kernel
theorem dX1_fewest_12 : decode cX1_fewest 12 = .ok (.aload_n 0, 1) := by decide +kernel
theorem dX1_fewest_13 : decode cX1_fewest 13 = .ok (.iload_n 2, 1) := by decide +kernel
theorem dX1_fewest_14 : decode cX1_fewest 14 = .ok (.invokevirtual 51, 3) := by decide +kernel
theorem dX1_fewest_17 : decode cX1_fewest 17 = .ok (.ifCond .ne 21, 3) := by decide +kernel
theorem dX1_fewest_20 : decode cX1_fewest 20 = .ok (.iload_n 1, 1) := by decide +kernel
theorem dX1_fewest_21 : decode cX1_fewest 21 = .ok (.iconst (-1), 1) := by decide +kernel
theorem dX1_fewest_22 : decode cX1_fewest 22 = .ok (.if_icmp .eq 14, 3) := by decide +kernel
theorem dX1_fewest_25 : decode cX1_fewest 25 = .ok (.iload_n 2, 1) := by decide +kernel
theorem dX1_fewest_26 : decode cX1_fewest 26 = .ok (.invokestatic 55, 3) := by decide +kernel
theorem dX1_fewest_29 : decode cX1_fewest 29 = .ok (.iload_n 1, 1) := by decide +kernel
theorem dX1_fewest_30 : decode cX1_fewest 30 = .ok (.invokestatic 55, 3) := by decide +kernel
theorem dX1_fewest_33 : decode cX1_fewest 33 = .ok (.if_icmp .ge 5, 3) := by decide +kernel
theorem dX1_fewest_36 : decode cX1_fewest 36 = .ok (.iload_n 2, 1) := by decide +kernel
theorem dX1_fewest_37 : decode cX1_fewest 37 = .ok (.istore_n 1, 1) := by decide +kernel
theorem dX1_fewest_38 : decode cX1_fewest 38 = .ok (.iinc 2 1, 3) := by decide +kernel
theorem dX1_fewest_41 : decode cX1_fewest 41 = .ok (.goto (-37), 3) := by decide +kernel
theorem dX1_fewest_44 : decode cX1_fewest 44 = .ok (.iload_n 1, 1) := by decide +kernel
theorem dX1_fewest_45 : decode cX1_fewest 45 = .ok (.ireturn, 1) := by decide +kernel
set_option maxRecDepth 20000 in
theorem ggX1_inAll_X1_all : GoodIn wsX1_inAll wsX1_all := goodIn_r _ [5, 6, 17, 18, 19, 20, 21, 22, 23, 24, 25, 26] (by decide +kernel) (by decide +kernel)
set_option maxRecDepth 20000 in
theorem gX1_inAll_X1_all : GoodIn wsX1_inAll (wsV RX1 47 RX1 yX1_all wsX1_all) := goodIn_app (goodIn_of _ (by decide +kernel)) ggX1_inAll_X1_all
set_option maxRecDepth 20000 in
theorem ggX1_inAll_X1_unexplained : GoodIn wsX1_inAll wsX1_unexplained := goodIn_r _ [10, 11, 12, 13, 14, 15, 4, 16, 17, 18, 19, 20, 21, 22, 23, 24, 25, 26] (by decide +kernel) (by decide +kernel)
set_option maxRecDepth 20000 in
theorem gX1_inAll_X1_unexplained : GoodIn wsX1_inAll (wsV RX1 51 RX1 yX1_unexplained wsX1_unexplained) := goodIn_app (goodIn_of _ (by decide +kernel)) ggX1_inAll_X1_unexplained
theorem dX1_inAll_0 : decode cX1_inAll 0 = .ok (.iconst (-1), 1) := by decide +kernel
theorem dX1_inAll_1 : decode cX1_inAll 1 = .ok (.istore_n 1, 1) := by decide +kernel
theorem dX1_inAll_2 : decode cX1_inAll 2 = .ok (.iconst 0, 1) := by decide +kernel
theorem dX1_inAll_3 : decode cX1_inAll 3 = .ok (.istore_n 2, 1) := by decide +kernel
theorem dX1_inAll_4 : decode cX1_inAll 4 = .ok (.iload_n 2, 1) := by decide +kernel
theorem dX1_inAll_5 : decode cX1_inAll 5 = .ok (.aload_n 0, 1) := by decide +kernel
theorem dX1_inAll_6 : decode cX1_inAll 6 = .ok (.invokevirtual 47, 3) := by decide +kernel
theorem dX1_inAll_9 : decode cX1_inAll 9 = .ok (.if_icmp .gt 30, 3) := by decide +kernel
theorem dX1_inAll_12 : decode cX1_inAll 12 = .ok (.aload_n 0, 1) := by decide +kernel
theorem dX1_inAll_13 : decode cX1_inAll 13 = .ok (.iload_n 2, 1) := by decide +kernel
theorem dX1_inAll_14 : decode cX1_inAll 14 = .ok (.invokevirtual 51, 3) := by decide +kernel
theorem dX1_inAll_17 : decode cX1_inAll 17 = .ok (.ifCond .ne 16, 3) := by decide +kernel
theorem dX1_inAll_20 : decode cX1_inAll 20 = .ok (.iload_n 1, 1) := by decide +kernel
theorem dX1_inAll_21 : decode cX1_inAll 21 = .ok (.iconst (-1), 1) := by decide +kernel
theorem dX1_inAll_22 : decode cX1_inAll 22 = .ok (.if_icmp .ne 7, 3) := by decide +kernel
theorem dX1_inAll_25 : decode cX1_inAll 25 = .ok (.iload_n 2, 1) := by decide +kernel
theorem dX1_inAll_26 : decode cX1_inAll 26 = .ok (.goto 6, 3) := by decide +kernel
theorem dX1_inAll_29 : decode cX1_inAll 29 = .ok (.iload_n 1, 1) := by decide +kernel
theorem dX1_inAll_30 : decode cX1_inAll 30 = .ok (.iload_n 2, 1) := by decide +kernel
theorem dX1_inAll_31 : decode cX1_inAll 31 = .ok (.iand, 1) := by decide +kernel
theorem dX1_inAll_32 : decode cX1_inAll 32 = .ok (.istore_n 1, 1) := by decide +kernel
theorem dX1_inAll_33 : decode cX1_inAll 33 = .ok (.iinc 2 1, 3) := by decide +kernel
theorem dX1_inAll_36 : decode cX1_inAll 36 = .ok (.goto (-32), 3) := by decide +kernel
theorem dX1_inAll_39 : decode cX1_inAll 39 = .ok (.iload_n 1, 1) := by decide +kernel
theorem dX1_inAll_40 : decode cX1_inAll 40 = .ok (.ireturn, 1) := by decide +kernel
set_option maxRecDepth 20000 in
theorem ggX1_withThing_X1_all : GoodIn wsX1_withThing wsX1_all := goodIn_r _ [5, 6, 20, 21, 22, 23, 24, 25, 26, 27, 28, 29] (by decide +kernel) (by decide +kernel)
set_option maxRecDepth 20000 in
theorem gX1_withThing_X1_all : GoodIn wsX1_withThing (wsV RX1 47 RX1 yX1_all wsX1_all) := goodIn_app (goodIn_of _ (by decide +kernel)) ggX1_withThing_X1_all
set_option maxRecDepth 20000 in
theorem ggX1_withThing_X1_has : GoodIn wsX1_withThing wsX1_has := goodIn_r _ [9] (by decide +kernel) (by decide +kernel)
set_option maxRecDepth 20000 in
theorem gX1_withThing_X1_has : GoodIn wsX1_withThing (va_wsS RX1 60 yX1_has wsX1_has) := goodIn_app (goodIn_of _ (by decide +kernel)) ggX1_withThing_X1_has
set_option maxRecDepth 20000 in
theorem ggX1_withThing_X1_unexplained : GoodIn wsX1_withThing wsX1_unexplained := goodIn_r _ [13, 14, 15, 16, 17, 18, 4, 19, 20, 21, 22, 23, 24, 25, 26, 27, 28, 29] (by decide +kernel) (by decide +kernel)
set_option maxRecDepth 20000 in
theorem gX1_withThing_X1_unexplained : GoodIn wsX1_withThing (wsV RX1 51 RX1 yX1_unexplained wsX1_unexplained) := goodIn_app (goodIn_of _ (by decide +kernel)) ggX1_withThing_X1_unexplained
theorem dX1_withThing_0 : decode cX1_withThing 0 = .ok (.iconst 0, 1) := by decide +kernel
theorem dX1_withThing_1 : decode cX1_withThing 1 = .ok (.istore_n 2, 1) := by decide +kernel
theorem dX1_withThing_2 : decode cX1_withThing 2 = .ok (.iconst 0, 1) := by decide +kernel
theorem dX1_withThing_3 : decode cX1_withThing 3 = .ok (.istore_n 3, 1) := by decide +kernel
theorem dX1_withThing_4 : decode cX1_withThing 4 = .ok (.iload_n 3, 1) := by decide +kernel
theorem dX1_withThing_5 : decode cX1_withThing 5 = .ok (.aload_n 0, 1) := by decide +kernel
theorem dX1_withThing_6 : decode cX1_withThing 6 = .ok (.invokevirtual 47, 3) := by decide +kernel
theorem dX1_withThing_9 : decode cX1_withThing 9 = .ok (.if_icmp .gt 33, 3) := by decide +kernel
theorem dX1_withThing_12 : decode cX1_withThing 12 = .ok (.iload_n 2, 1) := by decide +kernel
theorem dX1_withThing_13 : decode cX1_withThing 13 = .ok (.iload_n 3, 1) := by decide +kernel
theorem dX1_withThing_14 : decode cX1_withThing 14 = .ok (.iload_n 1, 1) := by decide +kernel
theorem dX1_withThing_15 : decode cX1_withThing 15 = .ok (.invokestatic 60, 3) := by decide +kernel
theorem dX1_withThing_18 : decode cX1_withThing 18 = .ok (.ifCond .eq 15, 3) := by decide +kernel
theorem dX1_withThing_21 : decode cX1_withThing 21 = .ok (.aload_n 0, 1) := by decide +kernel
theorem dX1_withThing_22 : decode cX1_withThing 22 = .ok (.iload_n 3, 1) := by decide +kernel
theorem dX1_withThing_23 : decode cX1_withThing 23 = .ok (.invokevirtual 51, 3) := by decide +kernel
theorem dX1_withThing_26 : decode cX1_withThing 26 = .ok (.ifCond .ne 7, 3) := by decide +kernel
theorem dX1_withThing_29 : decode cX1_withThing 29 = .ok (.iconst 1, 1) := by decide +kernel
theorem dX1_withThing_30 : decode cX1_withThing 30 = .ok (.goto 4, 3) := by decide +kernel
theorem dX1_withThing_33 : decode cX1_withThing 33 = .ok (.iconst 0, 1) := by decide +kernel
theorem dX1_withThing_34 : decode cX1_withThing 34 = .ok (.iadd, 1) := by decide +kernel
theorem dX1_withThing_35 : decode cX1_withThing 35 = .ok (.istore_n 2, 1) := by decide +kernel
theorem dX1_withThing_36 : decode cX1_withThing 36 = .ok (.iinc 3 1, 3) := by decide +kernel
theorem dX1_withThing_39 : decode cX1_withThing 39 = .ok (.goto (-35), 3) := by decide +kernel
theorem dX1_withThing_42 : decode cX1_withThing 42 = .ok (.iload_n 2, 1) := by decide +kernel
theorem dX1_withThing_43 : decode cX1_withThing 43 = .ok (.ireturn, 1) := by decide +kernel
set_option maxRecDepth 20000 in
theorem ggX1_meeting_X1_all : GoodIn wsX1_meeting wsX1_all := goodIn_r _ [5, 6, 17, 18, 19, 20, 21, 22, 23, 24, 25, 26] (by decide +kernel) (by decide +kernel)
set_option maxRecDepth 20000 in
theorem gX1_meeting_X1_all : GoodIn wsX1_meeting (wsV RX1 47 RX1 yX1_all wsX1_all) := goodIn_app (goodIn_of _ (by decide +kernel)) ggX1_meeting_X1_all
set_option maxRecDepth 20000 in
theorem ggX1_meeting_X1_unexplained : GoodIn wsX1_meeting wsX1_unexplained := goodIn_r _ [10, 11, 12, 13, 14, 15, 4, 16, 17, 18, 19, 20, 21, 22, 23, 24, 25, 26] (by decide +kernel) (by decide +kernel)
set_option maxRecDepth 20000 in
theorem gX1_meeting_X1_unexplained : GoodIn wsX1_meeting (wsV RX1 51 RX1 yX1_unexplained wsX1_unexplained) := goodIn_app (goodIn_of _ (by decide +kernel)) ggX1_meeting_X1_unexplained
theorem dX1_meeting_0 : decode cX1_meeting 0 = .ok (.iconst 0, 1) := by decide +kernel
theorem dX1_meeting_1 : decode cX1_meeting 1 = .ok (.istore_n 2, 1) := by decide +kernel
theorem dX1_meeting_2 : decode cX1_meeting 2 = .ok (.iconst 0, 1) := by decide +kernel
theorem dX1_meeting_3 : decode cX1_meeting 3 = .ok (.istore_n 3, 1) := by decide +kernel
theorem dX1_meeting_4 : decode cX1_meeting 4 = .ok (.iload_n 3, 1) := by decide +kernel
theorem dX1_meeting_5 : decode cX1_meeting 5 = .ok (.aload_n 0, 1) := by decide +kernel
theorem dX1_meeting_6 : decode cX1_meeting 6 = .ok (.invokevirtual 47, 3) := by decide +kernel
theorem dX1_meeting_9 : decode cX1_meeting 9 = .ok (.if_icmp .gt 31, 3) := by decide +kernel
theorem dX1_meeting_12 : decode cX1_meeting 12 = .ok (.iload_n 2, 1) := by decide +kernel
theorem dX1_meeting_13 : decode cX1_meeting 13 = .ok (.iload_n 3, 1) := by decide +kernel
theorem dX1_meeting_14 : decode cX1_meeting 14 = .ok (.iload_n 1, 1) := by decide +kernel
theorem dX1_meeting_15 : decode cX1_meeting 15 = .ok (.iand, 1) := by decide +kernel
theorem dX1_meeting_16 : decode cX1_meeting 16 = .ok (.ifCond .eq 15, 3) := by decide +kernel
theorem dX1_meeting_19 : decode cX1_meeting 19 = .ok (.aload_n 0, 1) := by decide +kernel
theorem dX1_meeting_20 : decode cX1_meeting 20 = .ok (.iload_n 3, 1) := by decide +kernel
theorem dX1_meeting_21 : decode cX1_meeting 21 = .ok (.invokevirtual 51, 3) := by decide +kernel
theorem dX1_meeting_24 : decode cX1_meeting 24 = .ok (.ifCond .ne 7, 3) := by decide +kernel
theorem dX1_meeting_27 : decode cX1_meeting 27 = .ok (.iconst 1, 1) := by decide +kernel
theorem dX1_meeting_28 : decode cX1_meeting 28 = .ok (.goto 4, 3) := by decide +kernel
theorem dX1_meeting_31 : decode cX1_meeting 31 = .ok (.iconst 0, 1) := by decide +kernel
theorem dX1_meeting_32 : decode cX1_meeting 32 = .ok (.iadd, 1) := by decide +kernel
theorem dX1_meeting_33 : decode cX1_meeting 33 = .ok (.istore_n 2, 1) := by decide +kernel
theorem dX1_meeting_34 : decode cX1_meeting 34 = .ok (.iinc 3 1, 3) := by decide +kernel
theorem dX1_meeting_37 : decode cX1_meeting 37 = .ok (.goto (-33), 3) := by decide +kernel
theorem dX1_meeting_40 : decode cX1_meeting 40 = .ok (.iload_n 2, 1) := by decide +kernel
theorem dX1_meeting_41 : decode cX1_meeting 41 = .ok (.ireturn, 1) := by decide +kernel
set_option maxRecDepth 20000 in
theorem ggX1_addThing_X1_no : GoodIn wsX1_addThing wsX1_no := goodIn_r _ [7, 1, 8, 9, 10, 11, 12, 13, 14, 15, 16, 17] (by decide +kernel) (by decide +kernel)
set_option maxRecDepth 20000 in
theorem gX1_addThing_X1_no : GoodIn wsX1_addThing (wsV RX1 64 RX1 yX1_no wsX1_no) := goodIn_app (goodIn_of _ (by decide +kernel)) ggX1_addThing_X1_no
theorem dX1_addThing_0 : decode cX1_addThing 0 = .ok (.aload_n 0, 1) := by decide +kernel
theorem dX1_addThing_1 : decode cX1_addThing 1 = .ok (.iconst 0, 1) := by decide +kernel
theorem dX1_addThing_2 : decode cX1_addThing 2 = .ok (.putfield 26, 3) := by decide +kernel
theorem dX1_addThing_5 : decode cX1_addThing 5 = .ok (.aload_n 0, 1) := by decide +kernel
theorem dX1_addThing_6 : decode cX1_addThing 6 = .ok (.getfield 30, 3) := by decide +kernel
theorem dX1_addThing_9 : decode cX1_addThing 9 = .ok (.bipush 8, 2) := by decide +kernel
theorem dX1_addThing_11 : decode cX1_addThing 11 = .ok (.if_icmp .ne 9, 3) := by decide +kernel
theorem dX1_addThing_14 : decode cX1_addThing 14 = .ok (.aload_n 0, 1) := by decide +kernel
theorem dX1_addThing_15 : decode cX1_addThing 15 = .ok (.iconst 1, 1) := by decide +kernel
theorem dX1_addThing_16 : decode cX1_addThing 16 = .ok (.invokevirtual 64, 3) := by decide +kernel
theorem dX1_addThing_19 : decode cX1_addThing 19 = .ok (.ireturn, 1) := by decide +kernel
theorem dX1_addThing_20 : decode cX1_addThing 20 = .ok (.aload_n 0, 1) := by decide +kernel
theorem dX1_addThing_21 : decode cX1_addThing 21 = .ok (.dup, 1) := by decide +kernel
theorem dX1_addThing_22 : decode cX1_addThing 22 = .ok (.getfield 30, 3) := by decide +kernel
theorem dX1_addThing_25 : decode cX1_addThing 25 = .ok (.iconst 1, 1) := by decide +kernel
theorem dX1_addThing_26 : decode cX1_addThing 26 = .ok (.iadd, 1) := by decide +kernel
theorem dX1_addThing_27 : decode cX1_addThing 27 = .ok (.putfield 30, 3) := by decide +kernel
theorem dX1_addThing_30 : decode cX1_addThing 30 = .ok (.aload_n 0, 1) := by decide +kernel
theorem dX1_addThing_31 : decode cX1_addThing 31 = .ok (.getfield 30, 3) := by decide +kernel
theorem dX1_addThing_34 : decode cX1_addThing 34 = .ok (.iconst 1, 1) := by decide +kernel
theorem dX1_addThing_35 : decode cX1_addThing 35 = .ok (.isub, 1) := by decide +kernel
theorem dX1_addThing_36 : decode cX1_addThing 36 = .ok (.ireturn, 1) := by decide +kernel
set_option maxRecDepth 20000 in
theorem ggX1_addAstronomer_X1_isIn : GoodIn wsX1_addAstronomer wsX1_isIn := goodIn_r _ [8] (by decide +kernel) (by decide +kernel)
set_option maxRecDepth 20000 in
theorem gX1_addAstronomer_X1_isIn : GoodIn wsX1_addAstronomer (va_wsS RX1 33 yX1_isIn wsX1_isIn) := goodIn_app (goodIn_of _ (by decide +kernel)) ggX1_addAstronomer_X1_isIn
set_option maxRecDepth 20000 in
theorem ggX1_addAstronomer_X1_no : GoodIn wsX1_addAstronomer wsX1_no := goodIn_r _ [12, 1, 13, 14, 15, 16, 17, 18, 19, 20, 21, 22] (by decide +kernel) (by decide +kernel)
set_option maxRecDepth 20000 in
theorem gX1_addAstronomer_X1_no : GoodIn wsX1_addAstronomer (wsV RX1 64 RX1 yX1_no wsX1_no) := goodIn_app (goodIn_of _ (by decide +kernel)) ggX1_addAstronomer_X1_no
theorem dX1_addAstronomer_0 : decode cX1_addAstronomer 0 = .ok (.aload_n 0, 1) := by decide +kernel
theorem dX1_addAstronomer_1 : decode cX1_addAstronomer 1 = .ok (.iconst 0, 1) := by decide +kernel
theorem dX1_addAstronomer_2 : decode cX1_addAstronomer 2 = .ok (.putfield 26, 3) := by decide +kernel
theorem dX1_addAstronomer_5 : decode cX1_addAstronomer 5 = .ok (.iload_n 1, 1) := by decide +kernel
theorem dX1_addAstronomer_6 : decode cX1_addAstronomer 6 = .ok (.iconst 0, 1) := by decide +kernel
theorem dX1_addAstronomer_7 : decode cX1_addAstronomer 7 = .ok (.iconst 5, 1) := by decide +kernel
theorem dX1_addAstronomer_8 : decode cX1_addAstronomer 8 = .ok (.invokestatic 33, 3) := by decide +kernel
theorem dX1_addAstronomer_11 : decode cX1_addAstronomer 11 = .ok (.ifCond .ne 9, 3) := by decide +kernel
theorem dX1_addAstronomer_14 : decode cX1_addAstronomer 14 = .ok (.aload_n 0, 1) := by decide +kernel
theorem dX1_addAstronomer_15 : decode cX1_addAstronomer 15 = .ok (.iconst 1, 1) := by decide +kernel
theorem dX1_addAstronomer_16 : decode cX1_addAstronomer 16 = .ok (.invokevirtual 64, 3) := by decide +kernel
theorem dX1_addAstronomer_19 : decode cX1_addAstronomer 19 = .ok (.ireturn, 1) := by decide +kernel
theorem dX1_addAstronomer_20 : decode cX1_addAstronomer 20 = .ok (.aload_n 0, 1) := by decide +kernel
theorem dX1_addAstronomer_21 : decode cX1_addAstronomer 21 = .ok (.getfield 40, 3) := by decide +kernel
theorem dX1_addAstronomer_24 : decode cX1_addAstronomer 24 = .ok (.bipush 8, 2) := by decide +kernel
theorem dX1_addAstronomer_26 : decode cX1_addAstronomer 26 = .ok (.if_icmp .ne 9, 3) := by decide +kernel
theorem dX1_addAstronomer_29 : decode cX1_addAstronomer 29 = .ok (.aload_n 0, 1) := by decide +kernel
theorem dX1_addAstronomer_30 : decode cX1_addAstronomer 30 = .ok (.iconst 2, 1) := by decide +kernel
theorem dX1_addAstronomer_31 : decode cX1_addAstronomer 31 = .ok (.invokevirtual 64, 3) := by decide +kernel
theorem dX1_addAstronomer_34 : decode cX1_addAstronomer 34 = .ok (.ireturn, 1) := by decide +kernel
theorem dX1_addAstronomer_35 : decode cX1_addAstronomer 35 = .ok (.aload_n 0, 1) := by decide +kernel
theorem dX1_addAstronomer_36 : decode cX1_addAstronomer 36 = .ok (.getfield 17, 3) := by decide +kernel
theorem dX1_addAstronomer_39 : decode cX1_addAstronomer 39 = .ok (.aload_n 0, 1) := by decide +kernel
theorem dX1_addAstronomer_40 : decode cX1_addAstronomer 40 = .ok (.getfield 40, 3) := by decide +kernel
theorem dX1_addAstronomer_43 : decode cX1_addAstronomer 43 = .ok (.iload_n 1, 1) := by decide +kernel
theorem dX1_addAstronomer_44 : decode cX1_addAstronomer 44 = .ok (.iastore, 1) := by decide +kernel
theorem dX1_addAstronomer_45 : decode cX1_addAstronomer 45 = .ok (.aload_n 0, 1) := by decide +kernel
theorem dX1_addAstronomer_46 : decode cX1_addAstronomer 46 = .ok (.getfield 20, 3) := by decide +kernel
theorem dX1_addAstronomer_49 : decode cX1_addAstronomer 49 = .ok (.aload_n 0, 1) := by decide +kernel
theorem dX1_addAstronomer_50 : decode cX1_addAstronomer 50 = .ok (.getfield 40, 3) := by decide +kernel
theorem dX1_addAstronomer_53 : decode cX1_addAstronomer 53 = .ok (.iload_n 1, 1) := by decide +kernel
theorem dX1_addAstronomer_54 : decode cX1_addAstronomer 54 = .ok (.iastore, 1) := by decide +kernel
theorem dX1_addAstronomer_55 : decode cX1_addAstronomer 55 = .ok (.aload_n 0, 1) := by decide +kernel
theorem dX1_addAstronomer_56 : decode cX1_addAstronomer 56 = .ok (.dup, 1) := by decide +kernel
theorem dX1_addAstronomer_57 : decode cX1_addAstronomer 57 = .ok (.getfield 40, 3) := by decide +kernel
theorem dX1_addAstronomer_60 : decode cX1_addAstronomer 60 = .ok (.iconst 1, 1) := by decide +kernel
theorem dX1_addAstronomer_61 : decode cX1_addAstronomer 61 = .ok (.iadd, 1) := by decide +kernel
theorem dX1_addAstronomer_62 : decode cX1_addAstronomer 62 = .ok (.putfield 40, 3) := by decide +kernel
theorem dX1_addAstronomer_65 : decode cX1_addAstronomer 65 = .ok (.aload_n 0, 1) := by decide +kernel
theorem dX1_addAstronomer_66 : decode cX1_addAstronomer 66 = .ok (.getfield 40, 3) := by decide +kernel
theorem dX1_addAstronomer_69 : decode cX1_addAstronomer 69 = .ok (.iconst 1, 1) := by decide +kernel
theorem dX1_addAstronomer_70 : decode cX1_addAstronomer 70 = .ok (.isub, 1) := by decide +kernel
theorem dX1_addAstronomer_71 : decode cX1_addAstronomer 71 = .ok (.ireturn, 1) := by decide +kernel
theorem dX1_think_0 : decode cX1_think 0 = .ok (.aload_n 0, 1) := by decide +kernel
theorem dX1_think_1 : decode cX1_think 1 = .ok (.getfield 23, 3) := by decide +kernel
theorem dX1_think_4 : decode cX1_think 4 = .ok (.iload_n 1, 1) := by decide +kernel
theorem dX1_think_5 : decode cX1_think 5 = .ok (.iload_n 2, 1) := by decide +kernel
theorem dX1_think_6 : decode cX1_think 6 = .ok (.iastore, 1) := by decide +kernel
theorem dX1_think_7 : decode cX1_think 7 = .ok (.aload_n 0, 1) := by decide +kernel
theorem dX1_think_8 : decode cX1_think 8 = .ok (.getfield 20, 3) := by decide +kernel
theorem dX1_think_11 : decode cX1_think 11 = .ok (.iload_n 1, 1) := by decide +kernel
theorem dX1_think_12 : decode cX1_think 12 = .ok (.aload_n 0, 1) := by decide +kernel
theorem dX1_think_13 : decode cX1_think 13 = .ok (.getfield 17, 3) := by decide +kernel
theorem dX1_think_16 : decode cX1_think 16 = .ok (.iload_n 1, 1) := by decide +kernel
theorem dX1_think_17 : decode cX1_think 17 = .ok (.iaload, 1) := by decide +kernel
theorem dX1_think_18 : decode cX1_think 18 = .ok (.iastore, 1) := by decide +kernel
theorem dX1_think_19 : decode cX1_think 19 = .ok (.return_, 1) := by decide +kernel
set_option maxRecDepth 20000 in
theorem ggX1_blame_X1_isAstronomer : GoodIn wsX1_blame wsX1_isAstronomer := goodIn_r _ [7, 8, 9, 10, 6, 11, 27, 28, 29, 30, 31, 32, 33, 34, 35, 36] (by decide +kernel) (by decide +kernel)
set_option maxRecDepth 20000 in
theorem gX1_blame_X1_isAstronomer : GoodIn wsX1_blame (wsV RX1 67 RX1 yX1_isAstronomer wsX1_isAstronomer) := goodIn_app (goodIn_of _ (by decide +kernel)) ggX1_blame_X1_isAstronomer
set_option maxRecDepth 20000 in
theorem ggX1_blame_X1_no : GoodIn wsX1_blame wsX1_no := goodIn_r _ [15, 1, 27, 28, 29, 30, 31, 32, 33, 34, 35, 36] (by decide +kernel) (by decide +kernel)
set_option maxRecDepth 20000 in
theorem gX1_blame_X1_no : GoodIn wsX1_blame (wsV RX1 64 RX1 yX1_no wsX1_no) := goodIn_app (goodIn_of _ (by decide +kernel)) ggX1_blame_X1_no
set_option maxRecDepth 20000 in
theorem ggX1_blame_X1_all : GoodIn wsX1_blame wsX1_all := goodIn_r _ [19, 20, 27, 28, 29, 30, 31, 32, 33, 34, 35, 36] (by decide +kernel) (by decide +kernel)
set_option maxRecDepth 20000 in
theorem gX1_blame_X1_all : GoodIn wsX1_blame (wsV RX1 47 RX1 yX1_all wsX1_all) := goodIn_app (goodIn_of _ (by decide +kernel)) ggX1_blame_X1_all
set_option maxRecDepth 20000 in
theorem ggX1_blame_X1_isIn : GoodIn wsX1_blame wsX1_isIn := goodIn_r _ [11] (by decide +kernel) (by decide +kernel)
set_option maxRecDepth 20000 in
theorem gX1_blame_X1_isIn : GoodIn wsX1_blame (va_wsS RX1 33 yX1_isIn wsX1_isIn) := goodIn_app (goodIn_of _ (by decide +kernel)) ggX1_blame_X1_isIn
set_option maxRecDepth 20000 in
theorem ggX1_blame_X1_think : GoodIn wsX1_blame wsX1_think := goodIn_r _ [24, 2, 25, 26, 27, 28, 29, 30, 31, 32, 33, 34, 35, 36] (by decide +kernel) (by decide +kernel)
set_option maxRecDepth 20000 in
theorem gX1_blame_X1_think : GoodIn wsX1_blame (wsV RX1 71 RX1 yX1_think wsX1_think) := goodIn_app (goodIn_of _ (by decide +kernel)) ggX1_blame_X1_think
theorem dX1_blame_0 : decode cX1_blame 0 = .ok (.aload_n 0, 1) := by decide +kernel
theorem dX1_blame_1 : decode cX1_blame 1 = .ok (.iconst 0, 1) := by decide +kernel
theorem dX1_blame_2 : decode cX1_blame 2 = .ok (.putfield 26, 3) := by decide +kernel
theorem dX1_blame_5 : decode cX1_blame 5 = .ok (.aload_n 0, 1) := by decide +kernel
theorem dX1_blame_6 : decode cX1_blame 6 = .ok (.iload_n 1, 1) := by decide +kernel
theorem dX1_blame_7 : decode cX1_blame 7 = .ok (.invokevirtual 67, 3) := by decide +kernel
theorem dX1_blame_10 : decode cX1_blame 10 = .ok (.ifCond .ne 9, 3) := by decide +kernel
theorem dX1_blame_13 : decode cX1_blame 13 = .ok (.aload_n 0, 1) := by decide +kernel
theorem dX1_blame_14 : decode cX1_blame 14 = .ok (.iconst 1, 1) := by decide +kernel
theorem dX1_blame_15 : decode cX1_blame 15 = .ok (.invokevirtual 64, 3) := by decide +kernel
theorem dX1_blame_18 : decode cX1_blame 18 = .ok (.ireturn, 1) := by decide +kernel
theorem dX1_blame_19 : decode cX1_blame 19 = .ok (.iload_n 2, 1) := by decide +kernel
theorem dX1_blame_20 : decode cX1_blame 20 = .ok (.iconst 0, 1) := by decide +kernel
theorem dX1_blame_21 : decode cX1_blame 21 = .ok (.aload_n 0, 1) := by decide +kernel
theorem dX1_blame_22 : decode cX1_blame 22 = .ok (.invokevirtual 47, 3) := by decide +kernel
theorem dX1_blame_25 : decode cX1_blame 25 = .ok (.invokestatic 33, 3) := by decide +kernel
theorem dX1_blame_28 : decode cX1_blame 28 = .ok (.ifCond .ne 9, 3) := by decide +kernel
theorem dX1_blame_31 : decode cX1_blame 31 = .ok (.aload_n 0, 1) := by decide +kernel
theorem dX1_blame_32 : decode cX1_blame 32 = .ok (.iconst 2, 1) := by decide +kernel
theorem dX1_blame_33 : decode cX1_blame 33 = .ok (.invokevirtual 64, 3) := by decide +kernel
theorem dX1_blame_36 : decode cX1_blame 36 = .ok (.ireturn, 1) := by decide +kernel
theorem dX1_blame_37 : decode cX1_blame 37 = .ok (.aload_n 0, 1) := by decide +kernel
theorem dX1_blame_38 : decode cX1_blame 38 = .ok (.getfield 23, 3) := by decide +kernel
theorem dX1_blame_41 : decode cX1_blame 41 = .ok (.iload_n 1, 1) := by decide +kernel
theorem dX1_blame_42 : decode cX1_blame 42 = .ok (.iaload, 1) := by decide +kernel
theorem dX1_blame_43 : decode cX1_blame 43 = .ok (.istore_n 3, 1) := by decide +kernel
theorem dX1_blame_44 : decode cX1_blame 44 = .ok (.aload_n 0, 1) := by decide +kernel
theorem dX1_blame_45 : decode cX1_blame 45 = .ok (.iload_n 1, 1) := by decide +kernel
theorem dX1_blame_46 : decode cX1_blame 46 = .ok (.iload_n 2, 1) := by decide +kernel
theorem dX1_blame_47 : decode cX1_blame 47 = .ok (.invokevirtual 71, 3) := by decide +kernel
theorem dX1_blame_50 : decode cX1_blame 50 = .ok (.iload_n 3, 1) := by decide +kernel
theorem dX1_blame_51 : decode cX1_blame 51 = .ok (.ireturn, 1) := by decide +kernel
theorem dX1_put_0 : decode cX1_put 0 = .ok (.aload_n 0, 1) := by decide +kernel
theorem dX1_put_1 : decode cX1_put 1 = .ok (.getfield 9, 3) := by decide +kernel
theorem dX1_put_4 : decode cX1_put 4 = .ok (.aload_n 0, 1) := by decide +kernel
theorem dX1_put_5 : decode cX1_put 5 = .ok (.getfield 37, 3) := by decide +kernel
theorem dX1_put_8 : decode cX1_put 8 = .ok (.iload_n 1, 1) := by decide +kernel
theorem dX1_put_9 : decode cX1_put 9 = .ok (.iastore, 1) := by decide +kernel
theorem dX1_put_10 : decode cX1_put 10 = .ok (.aload_n 0, 1) := by decide +kernel
theorem dX1_put_11 : decode cX1_put 11 = .ok (.getfield 13, 3) := by decide +kernel
theorem dX1_put_14 : decode cX1_put 14 = .ok (.aload_n 0, 1) := by decide +kernel
theorem dX1_put_15 : decode cX1_put 15 = .ok (.getfield 37, 3) := by decide +kernel
theorem dX1_put_18 : decode cX1_put 18 = .ok (.iload_n 2, 1) := by decide +kernel
theorem dX1_put_19 : decode cX1_put 19 = .ok (.bastore, 1) := by decide +kernel
theorem dX1_put_20 : decode cX1_put 20 = .ok (.aload_n 0, 1) := by decide +kernel
theorem dX1_put_21 : decode cX1_put 21 = .ok (.dup, 1) := by decide +kernel
theorem dX1_put_22 : decode cX1_put 22 = .ok (.getfield 37, 3) := by decide +kernel
theorem dX1_put_25 : decode cX1_put 25 = .ok (.iconst 1, 1) := by decide +kernel
theorem dX1_put_26 : decode cX1_put 26 = .ok (.iadd, 1) := by decide +kernel
theorem dX1_put_27 : decode cX1_put 27 = .ok (.putfield 37, 3) := by decide +kernel
theorem dX1_put_30 : decode cX1_put 30 = .ok (.return_, 1) := by decide +kernel
set_option maxRecDepth 20000 in
theorem ggX1_writeDown_X1_all : GoodIn wsX1_writeDown wsX1_all := goodIn_r _ [11, 12, 49, 50, 51, 52, 53, 54, 55, 56, 57, 58] (by decide +kernel) (by decide +kernel)
set_option maxRecDepth 20000 in
theorem gX1_writeDown_X1_all : GoodIn wsX1_writeDown (wsV RX1 47 RX1 yX1_all wsX1_all) := goodIn_app (goodIn_of _ (by decide +kernel)) ggX1_writeDown_X1_all
set_option maxRecDepth 20000 in
theorem ggX1_writeDown_X1_isIn : GoodIn wsX1_writeDown wsX1_isIn := goodIn_r _ [15] (by decide +kernel) (by decide +kernel)
set_option maxRecDepth 20000 in
theorem gX1_writeDown_X1_isIn : GoodIn wsX1_writeDown (va_wsS RX1 33 yX1_isIn wsX1_isIn) := goodIn_app (goodIn_of _ (by decide +kernel)) ggX1_writeDown_X1_isIn
set_option maxRecDepth 20000 in
theorem ggX1_writeDown_X1_no : GoodIn wsX1_writeDown wsX1_no := goodIn_r _ [19, 1, 49, 50, 51, 52, 53, 54, 55, 56, 57, 58] (by decide +kernel) (by decide +kernel)
set_option maxRecDepth 20000 in
theorem gX1_writeDown_X1_no : GoodIn wsX1_writeDown (wsV RX1 64 RX1 yX1_no wsX1_no) := goodIn_app (goodIn_of _ (by decide +kernel)) ggX1_writeDown_X1_no
set_option maxRecDepth 20000 in
theorem ggX1_writeDown_X1_put : GoodIn wsX1_writeDown wsX1_put := goodIn_r _ [23, 24, 2, 25, 49, 50, 51, 52, 53, 54, 55, 56, 57, 58] (by decide +kernel) (by decide +kernel)
set_option maxRecDepth 20000 in
theorem gX1_writeDown_X1_put : GoodIn wsX1_writeDown (wsV RX1 75 RX1 yX1_put wsX1_put) := goodIn_app (goodIn_of _ (by decide +kernel)) ggX1_writeDown_X1_put
set_option maxRecDepth 20000 in
theorem ggX1_writeDown_X1_fewest : GoodIn wsX1_writeDown wsX1_fewest := goodIn_r _ [29, 7, 8, 9, 10, 11, 12, 30, 31, 32, 33, 2, 24, 25, 34, 35, 36, 37, 38, 39, 40, 41, 42, 43, 49, 50, 51, 52, 53, 54, 55, 56, 57, 58] (by decide +kernel) (by decide +kernel)
set_option maxRecDepth 20000 in
theorem gX1_writeDown_X1_fewest : GoodIn wsX1_writeDown (wsV RX1 79 RX1 yX1_fewest wsX1_fewest) := goodIn_app (goodIn_of _ (by decide +kernel)) ggX1_writeDown_X1_fewest
set_option maxRecDepth 20000 in
theorem ggX1_writeDown_X1_explains : GoodIn wsX1_writeDown wsX1_explains := goodIn_r _ [36] (by decide +kernel) (by decide +kernel)
set_option maxRecDepth 20000 in
theorem gX1_writeDown_X1_explains : GoodIn wsX1_writeDown (va_wsS RX1 43 yX1_explains wsX1_explains) := goodIn_app (goodIn_of _ (by decide +kernel)) ggX1_writeDown_X1_explains
set_option maxRecDepth 20000 in
theorem ggX1_writeDown_X1_think : GoodIn wsX1_writeDown wsX1_think := goodIn_r _ [47, 4, 5, 48, 49, 50, 51, 52, 53, 54, 55, 56, 57, 58] (by decide +kernel) (by decide +kernel)
set_option maxRecDepth 20000 in
theorem gX1_writeDown_X1_think : GoodIn wsX1_writeDown (wsV RX1 71 RX1 yX1_think wsX1_think) := goodIn_app (goodIn_of _ (by decide +kernel)) ggX1_writeDown_X1_think
theorem dX1_writeDown_0 : decode cX1_writeDown 0 = .ok (.aload_n 0, 1) := by decide +kernel
theorem dX1_writeDown_1 : decode cX1_writeDown 1 = .ok (.iconst 0, 1) := by decide +kernel
theorem dX1_writeDown_2 : decode cX1_writeDown 2 = .ok (.putfield 26, 3) := by decide +kernel
theorem dX1_writeDown_5 : decode cX1_writeDown 5 = .ok (.iload_n 1, 1) := by decide +kernel
theorem dX1_writeDown_6 : decode cX1_writeDown 6 = .ok (.iconst 1, 1) := by decide +kernel
theorem dX1_writeDown_7 : decode cX1_writeDown 7 = .ok (.aload_n 0, 1) := by decide +kernel
theorem dX1_writeDown_8 : decode cX1_writeDown 8 = .ok (.invokevirtual 47, 3) := by decide +kernel
theorem dX1_writeDown_11 : decode cX1_writeDown 11 = .ok (.invokestatic 33, 3) := by decide +kernel
theorem dX1_writeDown_14 : decode cX1_writeDown 14 = .ok (.ifCond .ne 9, 3) := by decide +kernel
theorem dX1_writeDown_17 : decode cX1_writeDown 17 = .ok (.aload_n 0, 1) := by decide +kernel
theorem dX1_writeDown_18 : decode cX1_writeDown 18 = .ok (.iconst 1, 1) := by decide +kernel
theorem dX1_writeDown_19 : decode cX1_writeDown 19 = .ok (.invokevirtual 64, 3) := by decide +kernel
theorem dX1_writeDown_22 : decode cX1_writeDown 22 = .ok (.ireturn, 1) := by decide +kernel
theorem dX1_writeDown_23 : decode cX1_writeDown 23 = .ok (.aload_n 0, 1) := by decide +kernel
theorem dX1_writeDown_24 : decode cX1_writeDown 24 = .ok (.getfield 37, 3) := by decide +kernel
theorem dX1_writeDown_27 : decode cX1_writeDown 27 = .ok (.bipush 40, 2) := by decide +kernel
theorem dX1_writeDown_29 : decode cX1_writeDown 29 = .ok (.if_icmp .ne 9, 3) := by decide +kernel
theorem dX1_writeDown_32 : decode cX1_writeDown 32 = .ok (.aload_n 0, 1) := by decide +kernel
theorem dX1_writeDown_33 : decode cX1_writeDown 33 = .ok (.iconst 2, 1) := by decide +kernel
theorem dX1_writeDown_34 : decode cX1_writeDown 34 = .ok (.invokevirtual 64, 3) := by decide +kernel
theorem dX1_writeDown_37 : decode cX1_writeDown 37 = .ok (.ireturn, 1) := by decide +kernel
theorem dX1_writeDown_38 : decode cX1_writeDown 38 = .ok (.aload_n 0, 1) := by decide +kernel
theorem dX1_writeDown_39 : decode cX1_writeDown 39 = .ok (.iload_n 1, 1) := by decide +kernel
theorem dX1_writeDown_40 : decode cX1_writeDown 40 = .ok (.iload_n 2, 1) := by decide +kernel
theorem dX1_writeDown_41 : decode cX1_writeDown 41 = .ok (.invokevirtual 75, 3) := by decide +kernel
theorem dX1_writeDown_44 : decode cX1_writeDown 44 = .ok (.aload_n 0, 1) := by decide +kernel
theorem dX1_writeDown_45 : decode cX1_writeDown 45 = .ok (.invokevirtual 79, 3) := by decide +kernel
theorem dX1_writeDown_48 : decode cX1_writeDown 48 = .ok (.istore_n 3, 1) := by decide +kernel
theorem dX1_writeDown_49 : decode cX1_writeDown 49 = .ok (.iconst 0, 1) := by decide +kernel
theorem dX1_writeDown_50 : decode cX1_writeDown 50 = .ok (.istore 4, 2) := by decide +kernel
theorem dX1_writeDown_52 : decode cX1_writeDown 52 = .ok (.iconst 0, 1) := by decide +kernel
theorem dX1_writeDown_53 : decode cX1_writeDown 53 = .ok (.istore 5, 2) := by decide +kernel
theorem dX1_writeDown_55 : decode cX1_writeDown 55 = .ok (.iload 5, 2) := by decide +kernel
theorem dX1_writeDown_57 : decode cX1_writeDown 57 = .ok (.aload_n 0, 1) := by decide +kernel
theorem dX1_writeDown_58 : decode cX1_writeDown 58 = .ok (.getfield 40, 3) := by decide +kernel
theorem dX1_writeDown_61 : decode cX1_writeDown 61 = .ok (.if_icmp .ge 66, 3) := by decide +kernel
theorem dX1_writeDown_64 : decode cX1_writeDown 64 = .ok (.aload_n 0, 1) := by decide +kernel
theorem dX1_writeDown_65 : decode cX1_writeDown 65 = .ok (.getfield 23, 3) := by decide +kernel
theorem dX1_writeDown_68 : decode cX1_writeDown 68 = .ok (.iload 5, 2) := by decide +kernel
theorem dX1_writeDown_70 : decode cX1_writeDown 70 = .ok (.iaload, 1) := by decide +kernel
theorem dX1_writeDown_71 : decode cX1_writeDown 71 = .ok (.iload_n 1, 1) := by decide +kernel
theorem dX1_writeDown_72 : decode cX1_writeDown 72 = .ok (.iload_n 2, 1) := by decide +kernel
theorem dX1_writeDown_73 : decode cX1_writeDown 73 = .ok (.invokestatic 43, 3) := by decide +kernel
theorem dX1_writeDown_76 : decode cX1_writeDown 76 = .ok (.ifCond .eq 6, 3) := by decide +kernel
theorem dX1_writeDown_79 : decode cX1_writeDown 79 = .ok (.goto 42, 3) := by decide +kernel
theorem dX1_writeDown_82 : decode cX1_writeDown 82 = .ok (.aload_n 0, 1) := by decide +kernel
theorem dX1_writeDown_83 : decode cX1_writeDown 83 = .ok (.getfield 20, 3) := by decide +kernel
theorem dX1_writeDown_86 : decode cX1_writeDown 86 = .ok (.iload 5, 2) := by decide +kernel
theorem dX1_writeDown_88 : decode cX1_writeDown 88 = .ok (.iaload, 1) := by decide +kernel
theorem dX1_writeDown_89 : decode cX1_writeDown 89 = .ok (.ifCond .le 17, 3) := by decide +kernel
theorem dX1_writeDown_92 : decode cX1_writeDown 92 = .ok (.aload_n 0, 1) := by decide +kernel
theorem dX1_writeDown_93 : decode cX1_writeDown 93 = .ok (.getfield 20, 3) := by decide +kernel
theorem dX1_writeDown_96 : decode cX1_writeDown 96 = .ok (.iload 5, 2) := by decide +kernel
theorem dX1_writeDown_98 : decode cX1_writeDown 98 = .ok (.dup2, 1) := by decide +kernel
theorem dX1_writeDown_99 : decode cX1_writeDown 99 = .ok (.iaload, 1) := by decide +kernel
theorem dX1_writeDown_100 : decode cX1_writeDown 100 = .ok (.iconst 1, 1) := by decide +kernel
theorem dX1_writeDown_101 : decode cX1_writeDown 101 = .ok (.isub, 1) := by decide +kernel
theorem dX1_writeDown_102 : decode cX1_writeDown 102 = .ok (.iastore, 1) := by decide +kernel
theorem dX1_writeDown_103 : decode cX1_writeDown 103 = .ok (.goto 18, 3) := by decide +kernel
theorem dX1_writeDown_106 : decode cX1_writeDown 106 = .ok (.iload_n 3, 1) := by decide +kernel
theorem dX1_writeDown_107 : decode cX1_writeDown 107 = .ok (.iconst (-1), 1) := by decide +kernel
theorem dX1_writeDown_108 : decode cX1_writeDown 108 = .ok (.if_icmp .eq 13, 3) := by decide +kernel
theorem dX1_writeDown_111 : decode cX1_writeDown 111 = .ok (.aload_n 0, 1) := by decide +kernel
theorem dX1_writeDown_112 : decode cX1_writeDown 112 = .ok (.iload 5, 2) := by decide +kernel
theorem dX1_writeDown_114 : decode cX1_writeDown 114 = .ok (.iload_n 3, 1) := by decide +kernel
theorem dX1_writeDown_115 : decode cX1_writeDown 115 = .ok (.invokevirtual 71, 3) := by decide +kernel
theorem dX1_writeDown_118 : decode cX1_writeDown 118 = .ok (.iinc 4 1, 3) := by decide +kernel
theorem dX1_writeDown_121 : decode cX1_writeDown 121 = .ok (.iinc 5 1, 3) := by decide +kernel
theorem dX1_writeDown_124 : decode cX1_writeDown 124 = .ok (.goto (-69), 3) := by decide +kernel
theorem dX1_writeDown_127 : decode cX1_writeDown 127 = .ok (.aload_n 0, 1) := by decide +kernel
theorem dX1_writeDown_128 : decode cX1_writeDown 128 = .ok (.dup, 1) := by decide +kernel
theorem dX1_writeDown_129 : decode cX1_writeDown 129 = .ok (.getfield 82, 3) := by decide +kernel
theorem dX1_writeDown_132 : decode cX1_writeDown 132 = .ok (.iload 4, 2) := by decide +kernel
theorem dX1_writeDown_134 : decode cX1_writeDown 134 = .ok (.iadd, 1) := by decide +kernel
theorem dX1_writeDown_135 : decode cX1_writeDown 135 = .ok (.putfield 82, 3) := by decide +kernel
theorem dX1_writeDown_138 : decode cX1_writeDown 138 = .ok (.iload 4, 2) := by decide +kernel
theorem dX1_writeDown_140 : decode cX1_writeDown 140 = .ok (.ireturn, 1) := by decide +kernel
set_option maxRecDepth 20000 in
theorem ggX1_strike_X1_isNight : GoodIn wsX1_strike wsX1_isNight := goodIn_r _ [9, 2, 10, 11, 8, 12, 17, 18, 19, 20, 21, 22, 23, 24, 25, 26] (by decide +kernel) (by decide +kernel)
set_option maxRecDepth 20000 in
theorem gX1_strike_X1_isNight : GoodIn wsX1_strike (wsV RX1 85 RX1 yX1_isNight wsX1_isNight) := goodIn_app (goodIn_of _ (by decide +kernel)) ggX1_strike_X1_isNight
set_option maxRecDepth 20000 in
theorem ggX1_strike_X1_no : GoodIn wsX1_strike wsX1_no := goodIn_r _ [16, 1, 17, 18, 19, 20, 21, 22, 23, 24, 25, 26] (by decide +kernel) (by decide +kernel)
set_option maxRecDepth 20000 in
theorem gX1_strike_X1_no : GoodIn wsX1_strike (wsV RX1 64 RX1 yX1_no wsX1_no) := goodIn_app (goodIn_of _ (by decide +kernel)) ggX1_strike_X1_no
theorem dX1_strike_0 : decode cX1_strike 0 = .ok (.aload_n 0, 1) := by decide +kernel
theorem dX1_strike_1 : decode cX1_strike 1 = .ok (.iconst 0, 1) := by decide +kernel
theorem dX1_strike_2 : decode cX1_strike 2 = .ok (.putfield 26, 3) := by decide +kernel
theorem dX1_strike_5 : decode cX1_strike 5 = .ok (.aload_n 0, 1) := by decide +kernel
theorem dX1_strike_6 : decode cX1_strike 6 = .ok (.iload_n 1, 1) := by decide +kernel
theorem dX1_strike_7 : decode cX1_strike 7 = .ok (.invokevirtual 85, 3) := by decide +kernel
theorem dX1_strike_10 : decode cX1_strike 10 = .ok (.ifCond .ne 9, 3) := by decide +kernel
theorem dX1_strike_13 : decode cX1_strike 13 = .ok (.aload_n 0, 1) := by decide +kernel
theorem dX1_strike_14 : decode cX1_strike 14 = .ok (.iconst 1, 1) := by decide +kernel
theorem dX1_strike_15 : decode cX1_strike 15 = .ok (.invokevirtual 64, 3) := by decide +kernel
theorem dX1_strike_18 : decode cX1_strike 18 = .ok (.ireturn, 1) := by decide +kernel
theorem dX1_strike_19 : decode cX1_strike 19 = .ok (.iload_n 1, 1) := by decide +kernel
theorem dX1_strike_20 : decode cX1_strike 20 = .ok (.istore_n 2, 1) := by decide +kernel
theorem dX1_strike_21 : decode cX1_strike 21 = .ok (.iload_n 2, 1) := by decide +kernel
theorem dX1_strike_22 : decode cX1_strike 22 = .ok (.iconst 1, 1) := by decide +kernel
theorem dX1_strike_23 : decode cX1_strike 23 = .ok (.iadd, 1) := by decide +kernel
theorem dX1_strike_24 : decode cX1_strike 24 = .ok (.aload_n 0, 1) := by decide +kernel
theorem dX1_strike_25 : decode cX1_strike 25 = .ok (.getfield 37, 3) := by decide +kernel
theorem dX1_strike_28 : decode cX1_strike 28 = .ok (.if_icmp .ge 37, 3) := by decide +kernel
theorem dX1_strike_31 : decode cX1_strike 31 = .ok (.aload_n 0, 1) := by decide +kernel
theorem dX1_strike_32 : decode cX1_strike 32 = .ok (.getfield 9, 3) := by decide +kernel
theorem dX1_strike_35 : decode cX1_strike 35 = .ok (.iload_n 2, 1) := by decide +kernel
theorem dX1_strike_36 : decode cX1_strike 36 = .ok (.aload_n 0, 1) := by decide +kernel
theorem dX1_strike_37 : decode cX1_strike 37 = .ok (.getfield 9, 3) := by decide +kernel
theorem dX1_strike_40 : decode cX1_strike 40 = .ok (.iload_n 2, 1) := by decide +kernel
theorem dX1_strike_41 : decode cX1_strike 41 = .ok (.iconst 1, 1) := by decide +kernel
theorem dX1_strike_42 : decode cX1_strike 42 = .ok (.iadd, 1) := by decide +kernel
theorem dX1_strike_43 : decode cX1_strike 43 = .ok (.iaload, 1) := by decide +kernel
theorem dX1_strike_44 : decode cX1_strike 44 = .ok (.iastore, 1) := by decide +kernel
theorem dX1_strike_45 : decode cX1_strike 45 = .ok (.aload_n 0, 1) := by decide +kernel
theorem dX1_strike_46 : decode cX1_strike 46 = .ok (.getfield 13, 3) := by decide +kernel
theorem dX1_strike_49 : decode cX1_strike 49 = .ok (.iload_n 2, 1) := by decide +kernel
theorem dX1_strike_50 : decode cX1_strike 50 = .ok (.aload_n 0, 1) := by decide +kernel
theorem dX1_strike_51 : decode cX1_strike 51 = .ok (.getfield 13, 3) := by decide +kernel
theorem dX1_strike_54 : decode cX1_strike 54 = .ok (.iload_n 2, 1) := by decide +kernel
theorem dX1_strike_55 : decode cX1_strike 55 = .ok (.iconst 1, 1) := by decide +kernel
theorem dX1_strike_56 : decode cX1_strike 56 = .ok (.iadd, 1) := by decide +kernel
theorem dX1_strike_57 : decode cX1_strike 57 = .ok (.baload, 1) := by decide +kernel
theorem dX1_strike_58 : decode cX1_strike 58 = .ok (.bastore, 1) := by decide +kernel
theorem dX1_strike_59 : decode cX1_strike 59 = .ok (.iinc 2 1, 3) := by decide +kernel
theorem dX1_strike_62 : decode cX1_strike 62 = .ok (.goto (-41), 3) := by decide +kernel
theorem dX1_strike_65 : decode cX1_strike 65 = .ok (.aload_n 0, 1) := by decide +kernel
theorem dX1_strike_66 : decode cX1_strike 66 = .ok (.dup, 1) := by decide +kernel
theorem dX1_strike_67 : decode cX1_strike 67 = .ok (.getfield 37, 3) := by decide +kernel
theorem dX1_strike_70 : decode cX1_strike 70 = .ok (.iconst 1, 1) := by decide +kernel
theorem dX1_strike_71 : decode cX1_strike 71 = .ok (.isub, 1) := by decide +kernel
theorem dX1_strike_72 : decode cX1_strike 72 = .ok (.putfield 37, 3) := by decide +kernel
theorem dX1_strike_75 : decode cX1_strike 75 = .ok (.aload_n 0, 1) := by decide +kernel
theorem dX1_strike_76 : decode cX1_strike 76 = .ok (.getfield 37, 3) := by decide +kernel
theorem dX1_strike_79 : decode cX1_strike 79 = .ok (.ireturn, 1) := by decide +kernel
set_option maxRecDepth 20000 in
theorem ggX1_things_X1_ok : GoodIn wsX1_things wsX1_ok := goodIn_r _ [6, 7, 8, 9, 10, 11, 12, 13, 14, 15, 16, 17] (by decide +kernel) (by decide +kernel)
set_option maxRecDepth 20000 in
theorem gX1_things_X1_ok : GoodIn wsX1_things (wsV RX1 88 RX1 yX1_ok wsX1_ok) := goodIn_app (goodIn_of _ (by decide +kernel)) ggX1_things_X1_ok
theorem dX1_things_0 : decode cX1_things 0 = .ok (.aload_n 0, 1) := by decide +kernel
theorem dX1_things_1 : decode cX1_things 1 = .ok (.aload_n 0, 1) := by decide +kernel
theorem dX1_things_2 : decode cX1_things 2 = .ok (.getfield 30, 3) := by decide +kernel
theorem dX1_things_5 : decode cX1_things 5 = .ok (.invokevirtual 88, 3) := by decide +kernel
theorem dX1_things_8 : decode cX1_things 8 = .ok (.ireturn, 1) := by decide +kernel
set_option maxRecDepth 20000 in
theorem ggX1_nightsOf_X1_has : GoodIn wsX1_nightsOf wsX1_has := goodIn_r _ [7] (by decide +kernel) (by decide +kernel)
set_option maxRecDepth 20000 in
theorem gX1_nightsOf_X1_has : GoodIn wsX1_nightsOf (va_wsS RX1 60 yX1_has wsX1_has) := goodIn_app (goodIn_of _ (by decide +kernel)) ggX1_nightsOf_X1_has
theorem dX1_nightsOf_0 : decode cX1_nightsOf 0 = .ok (.iconst 0, 1) := by decide +kernel
theorem dX1_nightsOf_1 : decode cX1_nightsOf 1 = .ok (.istore_n 3, 1) := by decide +kernel
theorem dX1_nightsOf_2 : decode cX1_nightsOf 2 = .ok (.iconst 0, 1) := by decide +kernel
theorem dX1_nightsOf_3 : decode cX1_nightsOf 3 = .ok (.istore 4, 2) := by decide +kernel
theorem dX1_nightsOf_5 : decode cX1_nightsOf 5 = .ok (.iload 4, 2) := by decide +kernel
theorem dX1_nightsOf_7 : decode cX1_nightsOf 7 = .ok (.aload_n 0, 1) := by decide +kernel
theorem dX1_nightsOf_8 : decode cX1_nightsOf 8 = .ok (.getfield 37, 3) := by decide +kernel
theorem dX1_nightsOf_11 : decode cX1_nightsOf 11 = .ok (.if_icmp .ge 45, 3) := by decide +kernel
theorem dX1_nightsOf_14 : decode cX1_nightsOf 14 = .ok (.iload_n 3, 1) := by decide +kernel
theorem dX1_nightsOf_15 : decode cX1_nightsOf 15 = .ok (.aload_n 0, 1) := by decide +kernel
theorem dX1_nightsOf_16 : decode cX1_nightsOf 16 = .ok (.getfield 9, 3) := by decide +kernel
theorem dX1_nightsOf_19 : decode cX1_nightsOf 19 = .ok (.iload 4, 2) := by decide +kernel
theorem dX1_nightsOf_21 : decode cX1_nightsOf 21 = .ok (.iaload, 1) := by decide +kernel
theorem dX1_nightsOf_22 : decode cX1_nightsOf 22 = .ok (.iload_n 1, 1) := by decide +kernel
theorem dX1_nightsOf_23 : decode cX1_nightsOf 23 = .ok (.invokestatic 60, 3) := by decide +kernel
theorem dX1_nightsOf_26 : decode cX1_nightsOf 26 = .ok (.ifCond .eq 21, 3) := by decide +kernel
theorem dX1_nightsOf_29 : decode cX1_nightsOf 29 = .ok (.aload_n 0, 1) := by decide +kernel
theorem dX1_nightsOf_30 : decode cX1_nightsOf 30 = .ok (.getfield 13, 3) := by decide +kernel
theorem dX1_nightsOf_33 : decode cX1_nightsOf 33 = .ok (.iload 4, 2) := by decide +kernel
theorem dX1_nightsOf_35 : decode cX1_nightsOf 35 = .ok (.baload, 1) := by decide +kernel
theorem dX1_nightsOf_36 : decode cX1_nightsOf 36 = .ok (.ifCond .ne 7, 3) := by decide +kernel
theorem dX1_nightsOf_39 : decode cX1_nightsOf 39 = .ok (.iload_n 2, 1) := by decide +kernel
theorem dX1_nightsOf_40 : decode cX1_nightsOf 40 = .ok (.ifCond .ne 7, 3) := by decide +kernel
theorem dX1_nightsOf_43 : decode cX1_nightsOf 43 = .ok (.iconst 1, 1) := by decide +kernel
theorem dX1_nightsOf_44 : decode cX1_nightsOf 44 = .ok (.goto 4, 3) := by decide +kernel
theorem dX1_nightsOf_47 : decode cX1_nightsOf 47 = .ok (.iconst 0, 1) := by decide +kernel
theorem dX1_nightsOf_48 : decode cX1_nightsOf 48 = .ok (.iadd, 1) := by decide +kernel
theorem dX1_nightsOf_49 : decode cX1_nightsOf 49 = .ok (.istore_n 3, 1) := by decide +kernel
theorem dX1_nightsOf_50 : decode cX1_nightsOf 50 = .ok (.iinc 4 1, 3) := by decide +kernel
theorem dX1_nightsOf_53 : decode cX1_nightsOf 53 = .ok (.goto (-48), 3) := by decide +kernel
theorem dX1_nightsOf_56 : decode cX1_nightsOf 56 = .ok (.iload_n 3, 1) := by decide +kernel
theorem dX1_nightsOf_57 : decode cX1_nightsOf 57 = .ok (.ireturn, 1) := by decide +kernel
set_option maxRecDepth 20000 in
theorem ggX1_nightsWith_X1_isThing : GoodIn wsX1_nightsWith wsX1_isThing := goodIn_r _ [6, 7, 8, 9, 5, 10, 25, 26, 27, 28, 29, 30, 31, 32, 33, 34] (by decide +kernel) (by decide +kernel)
set_option maxRecDepth 20000 in
theorem gX1_nightsWith_X1_isThing : GoodIn wsX1_nightsWith (wsV RX1 91 RX1 yX1_isThing wsX1_isThing) := goodIn_app (goodIn_of _ (by decide +kernel)) ggX1_nightsWith_X1_isThing
set_option maxRecDepth 20000 in
theorem ggX1_nightsWith_X1_nightsOf : GoodIn wsX1_nightsWith wsX1_nightsOf := goodIn_r _ [14, 15, 16, 17, 18, 19, 5, 20, 25, 26, 27, 28, 29, 30, 31, 32, 33, 34] (by decide +kernel) (by decide +kernel)
set_option maxRecDepth 20000 in
theorem gX1_nightsWith_X1_nightsOf : GoodIn wsX1_nightsWith (wsV RX1 94 RX1 yX1_nightsOf wsX1_nightsOf) := goodIn_app (goodIn_of _ (by decide +kernel)) ggX1_nightsWith_X1_nightsOf
set_option maxRecDepth 20000 in
theorem ggX1_nightsWith_X1_no : GoodIn wsX1_nightsWith wsX1_no := goodIn_r _ [24, 1, 25, 26, 27, 28, 29, 30, 31, 32, 33, 34] (by decide +kernel) (by decide +kernel)
set_option maxRecDepth 20000 in
theorem gX1_nightsWith_X1_no : GoodIn wsX1_nightsWith (wsV RX1 64 RX1 yX1_no wsX1_no) := goodIn_app (goodIn_of _ (by decide +kernel)) ggX1_nightsWith_X1_no
theorem dX1_nightsWith_0 : decode cX1_nightsWith 0 = .ok (.aload_n 0, 1) := by decide +kernel
theorem dX1_nightsWith_1 : decode cX1_nightsWith 1 = .ok (.iconst 0, 1) := by decide +kernel
theorem dX1_nightsWith_2 : decode cX1_nightsWith 2 = .ok (.putfield 26, 3) := by decide +kernel
theorem dX1_nightsWith_5 : decode cX1_nightsWith 5 = .ok (.aload_n 0, 1) := by decide +kernel
theorem dX1_nightsWith_6 : decode cX1_nightsWith 6 = .ok (.iload_n 1, 1) := by decide +kernel
theorem dX1_nightsWith_7 : decode cX1_nightsWith 7 = .ok (.invokevirtual 91, 3) := by decide +kernel
theorem dX1_nightsWith_10 : decode cX1_nightsWith 10 = .ok (.ifCond .eq 12, 3) := by decide +kernel
theorem dX1_nightsWith_13 : decode cX1_nightsWith 13 = .ok (.aload_n 0, 1) := by decide +kernel
theorem dX1_nightsWith_14 : decode cX1_nightsWith 14 = .ok (.iload_n 1, 1) := by decide +kernel
theorem dX1_nightsWith_15 : decode cX1_nightsWith 15 = .ok (.iconst 0, 1) := by decide +kernel
theorem dX1_nightsWith_16 : decode cX1_nightsWith 16 = .ok (.invokevirtual 94, 3) := by decide +kernel
theorem dX1_nightsWith_19 : decode cX1_nightsWith 19 = .ok (.goto 8, 3) := by decide +kernel
theorem dX1_nightsWith_22 : decode cX1_nightsWith 22 = .ok (.aload_n 0, 1) := by decide +kernel
theorem dX1_nightsWith_23 : decode cX1_nightsWith 23 = .ok (.iconst 1, 1) := by decide +kernel
theorem dX1_nightsWith_24 : decode cX1_nightsWith 24 = .ok (.invokevirtual 64, 3) := by decide +kernel
theorem dX1_nightsWith_27 : decode cX1_nightsWith 27 = .ok (.ireturn, 1) := by decide +kernel
set_option maxRecDepth 20000 in
theorem ggX1_smudgesWith_X1_isThing : GoodIn wsX1_smudgesWith wsX1_isThing := goodIn_r _ [6, 7, 8, 9, 5, 10, 25, 26, 27, 28, 29, 30, 31, 32, 33, 34] (by decide +kernel) (by decide +kernel)
set_option maxRecDepth 20000 in
theorem gX1_smudgesWith_X1_isThing : GoodIn wsX1_smudgesWith (wsV RX1 91 RX1 yX1_isThing wsX1_isThing) := goodIn_app (goodIn_of _ (by decide +kernel)) ggX1_smudgesWith_X1_isThing
set_option maxRecDepth 20000 in
theorem ggX1_smudgesWith_X1_nightsOf : GoodIn wsX1_smudgesWith wsX1_nightsOf := goodIn_r _ [14, 15, 16, 17, 18, 19, 5, 20, 25, 26, 27, 28, 29, 30, 31, 32, 33, 34] (by decide +kernel) (by decide +kernel)
set_option maxRecDepth 20000 in
theorem gX1_smudgesWith_X1_nightsOf : GoodIn wsX1_smudgesWith (wsV RX1 94 RX1 yX1_nightsOf wsX1_nightsOf) := goodIn_app (goodIn_of _ (by decide +kernel)) ggX1_smudgesWith_X1_nightsOf
set_option maxRecDepth 20000 in
theorem ggX1_smudgesWith_X1_no : GoodIn wsX1_smudgesWith wsX1_no := goodIn_r _ [24, 1, 25, 26, 27, 28, 29, 30, 31, 32, 33, 34] (by decide +kernel) (by decide +kernel)
set_option maxRecDepth 20000 in
theorem gX1_smudgesWith_X1_no : GoodIn wsX1_smudgesWith (wsV RX1 64 RX1 yX1_no wsX1_no) := goodIn_app (goodIn_of _ (by decide +kernel)) ggX1_smudgesWith_X1_no
theorem dX1_smudgesWith_0 : decode cX1_smudgesWith 0 = .ok (.aload_n 0, 1) := by decide +kernel
theorem dX1_smudgesWith_1 : decode cX1_smudgesWith 1 = .ok (.iconst 0, 1) := by decide +kernel
theorem dX1_smudgesWith_2 : decode cX1_smudgesWith 2 = .ok (.putfield 26, 3) := by decide +kernel
theorem dX1_smudgesWith_5 : decode cX1_smudgesWith 5 = .ok (.aload_n 0, 1) := by decide +kernel
theorem dX1_smudgesWith_6 : decode cX1_smudgesWith 6 = .ok (.iload_n 1, 1) := by decide +kernel
theorem dX1_smudgesWith_7 : decode cX1_smudgesWith 7 = .ok (.invokevirtual 91, 3) := by decide +kernel
theorem dX1_smudgesWith_10 : decode cX1_smudgesWith 10 = .ok (.ifCond .eq 12, 3) := by decide +kernel
theorem dX1_smudgesWith_13 : decode cX1_smudgesWith 13 = .ok (.aload_n 0, 1) := by decide +kernel
theorem dX1_smudgesWith_14 : decode cX1_smudgesWith 14 = .ok (.iload_n 1, 1) := by decide +kernel
theorem dX1_smudgesWith_15 : decode cX1_smudgesWith 15 = .ok (.iconst 1, 1) := by decide +kernel
theorem dX1_smudgesWith_16 : decode cX1_smudgesWith 16 = .ok (.invokevirtual 94, 3) := by decide +kernel
theorem dX1_smudgesWith_19 : decode cX1_smudgesWith 19 = .ok (.goto 8, 3) := by decide +kernel
theorem dX1_smudgesWith_22 : decode cX1_smudgesWith 22 = .ok (.aload_n 0, 1) := by decide +kernel
theorem dX1_smudgesWith_23 : decode cX1_smudgesWith 23 = .ok (.iconst 1, 1) := by decide +kernel
theorem dX1_smudgesWith_24 : decode cX1_smudgesWith 24 = .ok (.invokevirtual 64, 3) := by decide +kernel
theorem dX1_smudgesWith_27 : decode cX1_smudgesWith 27 = .ok (.ireturn, 1) := by decide +kernel
theorem dX1_cleared_0 : decode cX1_cleared 0 = .ok (.iconst 0, 1) := by decide +kernel
theorem dX1_cleared_1 : decode cX1_cleared 1 = .ok (.istore_n 1, 1) := by decide +kernel
theorem dX1_cleared_2 : decode cX1_cleared 2 = .ok (.iconst 0, 1) := by decide +kernel
theorem dX1_cleared_3 : decode cX1_cleared 3 = .ok (.istore_n 2, 1) := by decide +kernel
theorem dX1_cleared_4 : decode cX1_cleared 4 = .ok (.iload_n 2, 1) := by decide +kernel
theorem dX1_cleared_5 : decode cX1_cleared 5 = .ok (.aload_n 0, 1) := by decide +kernel
theorem dX1_cleared_6 : decode cX1_cleared 6 = .ok (.getfield 37, 3) := by decide +kernel
theorem dX1_cleared_9 : decode cX1_cleared 9 = .ok (.if_icmp .ge 27, 3) := by decide +kernel
theorem dX1_cleared_12 : decode cX1_cleared 12 = .ok (.aload_n 0, 1) := by decide +kernel
theorem dX1_cleared_13 : decode cX1_cleared 13 = .ok (.getfield 13, 3) := by decide +kernel
theorem dX1_cleared_16 : decode cX1_cleared 16 = .ok (.iload_n 2, 1) := by decide +kernel
theorem dX1_cleared_17 : decode cX1_cleared 17 = .ok (.baload, 1) := by decide +kernel
theorem dX1_cleared_18 : decode cX1_cleared 18 = .ok (.ifCond .ne 12, 3) := by decide +kernel
theorem dX1_cleared_21 : decode cX1_cleared 21 = .ok (.iload_n 1, 1) := by decide +kernel
theorem dX1_cleared_22 : decode cX1_cleared 22 = .ok (.aload_n 0, 1) := by decide +kernel
theorem dX1_cleared_23 : decode cX1_cleared 23 = .ok (.getfield 9, 3) := by decide +kernel
theorem dX1_cleared_26 : decode cX1_cleared 26 = .ok (.iload_n 2, 1) := by decide +kernel
theorem dX1_cleared_27 : decode cX1_cleared 27 = .ok (.iaload, 1) := by decide +kernel
theorem dX1_cleared_28 : decode cX1_cleared 28 = .ok (.ior, 1) := by decide +kernel
theorem dX1_cleared_29 : decode cX1_cleared 29 = .ok (.istore_n 1, 1) := by decide +kernel
theorem dX1_cleared_30 : decode cX1_cleared 30 = .ok (.iinc 2 1, 3) := by decide +kernel
theorem dX1_cleared_33 : decode cX1_cleared 33 = .ok (.goto (-29), 3) := by decide +kernel
theorem dX1_cleared_36 : decode cX1_cleared 36 = .ok (.iload_n 1, 1) := by decide +kernel
theorem dX1_cleared_37 : decode cX1_cleared 37 = .ok (.ireturn, 1) := by decide +kernel
set_option maxRecDepth 20000 in
theorem ggX1_proved_X1_cleared : GoodIn wsX1_proved wsX1_cleared := goodIn_r _ [8, 1, 2, 3, 12, 13, 14, 15, 16, 17, 18, 19, 20, 21] (by decide +kernel) (by decide +kernel)
set_option maxRecDepth 20000 in
theorem gX1_proved_X1_cleared : GoodIn wsX1_proved (wsV RX1 98 RX1 yX1_cleared wsX1_cleared) := goodIn_app (goodIn_of _ (by decide +kernel)) ggX1_proved_X1_cleared
set_option maxRecDepth 20000 in
theorem ggX1_proved_X1_has : GoodIn wsX1_proved wsX1_has := goodIn_r _ [11] (by decide +kernel) (by decide +kernel)
set_option maxRecDepth 20000 in
theorem gX1_proved_X1_has : GoodIn wsX1_proved (va_wsS RX1 60 yX1_has wsX1_has) := goodIn_app (goodIn_of _ (by decide +kernel)) ggX1_proved_X1_has
theorem dX1_proved_0 : decode cX1_proved 0 = .ok (.aload_n 0, 1) := by decide +kernel
theorem dX1_proved_1 : decode cX1_proved 1 = .ok (.invokevirtual 98, 3) := by decide +kernel
theorem dX1_proved_4 : decode cX1_proved 4 = .ok (.iconst (-1), 1) := by decide +kernel
theorem dX1_proved_5 : decode cX1_proved 5 = .ok (.ixor, 1) := by decide +kernel
theorem dX1_proved_6 : decode cX1_proved 6 = .ok (.iconst 1, 1) := by decide +kernel
theorem dX1_proved_7 : decode cX1_proved 7 = .ok (.iload_n 1, 1) := by decide +kernel
theorem dX1_proved_8 : decode cX1_proved 8 = .ok (.ishl, 1) := by decide +kernel
theorem dX1_proved_9 : decode cX1_proved 9 = .ok (.iconst (-1), 1) := by decide +kernel
theorem dX1_proved_10 : decode cX1_proved 10 = .ok (.ixor, 1) := by decide +kernel
theorem dX1_proved_11 : decode cX1_proved 11 = .ok (.iand, 1) := by decide +kernel
theorem dX1_proved_12 : decode cX1_proved 12 = .ok (.istore_n 2, 1) := by decide +kernel
theorem dX1_proved_13 : decode cX1_proved 13 = .ok (.iconst 0, 1) := by decide +kernel
theorem dX1_proved_14 : decode cX1_proved 14 = .ok (.istore_n 3, 1) := by decide +kernel
theorem dX1_proved_15 : decode cX1_proved 15 = .ok (.iload_n 3, 1) := by decide +kernel
theorem dX1_proved_16 : decode cX1_proved 16 = .ok (.aload_n 0, 1) := by decide +kernel
theorem dX1_proved_17 : decode cX1_proved 17 = .ok (.getfield 37, 3) := by decide +kernel
theorem dX1_proved_20 : decode cX1_proved 20 = .ok (.if_icmp .ge 44, 3) := by decide +kernel
theorem dX1_proved_23 : decode cX1_proved 23 = .ok (.aload_n 0, 1) := by decide +kernel
theorem dX1_proved_24 : decode cX1_proved 24 = .ok (.getfield 13, 3) := by decide +kernel
theorem dX1_proved_27 : decode cX1_proved 27 = .ok (.iload_n 3, 1) := by decide +kernel
theorem dX1_proved_28 : decode cX1_proved 28 = .ok (.baload, 1) := by decide +kernel
theorem dX1_proved_29 : decode cX1_proved 29 = .ok (.ifCond .eq 29, 3) := by decide +kernel
theorem dX1_proved_32 : decode cX1_proved 32 = .ok (.aload_n 0, 1) := by decide +kernel
theorem dX1_proved_33 : decode cX1_proved 33 = .ok (.getfield 9, 3) := by decide +kernel
theorem dX1_proved_36 : decode cX1_proved 36 = .ok (.iload_n 3, 1) := by decide +kernel
theorem dX1_proved_37 : decode cX1_proved 37 = .ok (.iaload, 1) := by decide +kernel
theorem dX1_proved_38 : decode cX1_proved 38 = .ok (.iload_n 1, 1) := by decide +kernel
theorem dX1_proved_39 : decode cX1_proved 39 = .ok (.invokestatic 60, 3) := by decide +kernel
theorem dX1_proved_42 : decode cX1_proved 42 = .ok (.ifCond .eq 16, 3) := by decide +kernel
theorem dX1_proved_45 : decode cX1_proved 45 = .ok (.aload_n 0, 1) := by decide +kernel
theorem dX1_proved_46 : decode cX1_proved 46 = .ok (.getfield 9, 3) := by decide +kernel
theorem dX1_proved_49 : decode cX1_proved 49 = .ok (.iload_n 3, 1) := by decide +kernel
theorem dX1_proved_50 : decode cX1_proved 50 = .ok (.iaload, 1) := by decide +kernel
theorem dX1_proved_51 : decode cX1_proved 51 = .ok (.iload_n 2, 1) := by decide +kernel
theorem dX1_proved_52 : decode cX1_proved 52 = .ok (.iand, 1) := by decide +kernel
theorem dX1_proved_53 : decode cX1_proved 53 = .ok (.ifCond .ne 5, 3) := by decide +kernel
theorem dX1_proved_56 : decode cX1_proved 56 = .ok (.iconst 1, 1) := by decide +kernel
theorem dX1_proved_57 : decode cX1_proved 57 = .ok (.ireturn, 1) := by decide +kernel
theorem dX1_proved_58 : decode cX1_proved 58 = .ok (.iinc 3 1, 3) := by decide +kernel
theorem dX1_proved_61 : decode cX1_proved 61 = .ok (.goto (-46), 3) := by decide +kernel
theorem dX1_proved_64 : decode cX1_proved 64 = .ok (.iconst 0, 1) := by decide +kernel
theorem dX1_proved_65 : decode cX1_proved 65 = .ok (.ireturn, 1) := by decide +kernel
set_option maxRecDepth 20000 in
theorem ggX1_isCleared_X1_isThing : GoodIn wsX1_isCleared wsX1_isThing := goodIn_r _ [6, 7, 8, 9, 5, 10, 25, 26, 27, 28, 29, 30, 31, 32, 33, 34] (by decide +kernel) (by decide +kernel)
set_option maxRecDepth 20000 in
theorem gX1_isCleared_X1_isThing : GoodIn wsX1_isCleared (wsV RX1 91 RX1 yX1_isThing wsX1_isThing) := goodIn_app (goodIn_of _ (by decide +kernel)) ggX1_isCleared_X1_isThing
set_option maxRecDepth 20000 in
theorem ggX1_isCleared_X1_cleared : GoodIn wsX1_isCleared wsX1_cleared := goodIn_r _ [14, 15, 16, 17, 25, 26, 27, 28, 29, 30, 31, 32, 33, 34] (by decide +kernel) (by decide +kernel)
set_option maxRecDepth 20000 in
theorem gX1_isCleared_X1_cleared : GoodIn wsX1_isCleared (wsV RX1 98 RX1 yX1_cleared wsX1_cleared) := goodIn_app (goodIn_of _ (by decide +kernel)) ggX1_isCleared_X1_cleared
set_option maxRecDepth 20000 in
theorem ggX1_isCleared_X1_has : GoodIn wsX1_isCleared wsX1_has := goodIn_r _ [20] (by decide +kernel) (by decide +kernel)
set_option maxRecDepth 20000 in
theorem gX1_isCleared_X1_has : GoodIn wsX1_isCleared (va_wsS RX1 60 yX1_has wsX1_has) := goodIn_app (goodIn_of _ (by decide +kernel)) ggX1_isCleared_X1_has
set_option maxRecDepth 20000 in
theorem ggX1_isCleared_X1_isNot : GoodIn wsX1_isCleared wsX1_isNot := goodIn_r _ [24, 1, 25, 26, 27, 28, 29, 30, 31, 32, 33, 34] (by decide +kernel) (by decide +kernel)
set_option maxRecDepth 20000 in
theorem gX1_isCleared_X1_isNot : GoodIn wsX1_isCleared (wsV RX1 101 RX1 yX1_isNot wsX1_isNot) := goodIn_app (goodIn_of _ (by decide +kernel)) ggX1_isCleared_X1_isNot
theorem dX1_isCleared_0 : decode cX1_isCleared 0 = .ok (.aload_n 0, 1) := by decide +kernel
theorem dX1_isCleared_1 : decode cX1_isCleared 1 = .ok (.iconst 0, 1) := by decide +kernel
theorem dX1_isCleared_2 : decode cX1_isCleared 2 = .ok (.putfield 26, 3) := by decide +kernel
theorem dX1_isCleared_5 : decode cX1_isCleared 5 = .ok (.aload_n 0, 1) := by decide +kernel
theorem dX1_isCleared_6 : decode cX1_isCleared 6 = .ok (.iload_n 1, 1) := by decide +kernel
theorem dX1_isCleared_7 : decode cX1_isCleared 7 = .ok (.invokevirtual 91, 3) := by decide +kernel
theorem dX1_isCleared_10 : decode cX1_isCleared 10 = .ok (.ifCond .eq 14, 3) := by decide +kernel
theorem dX1_isCleared_13 : decode cX1_isCleared 13 = .ok (.aload_n 0, 1) := by decide +kernel
theorem dX1_isCleared_14 : decode cX1_isCleared 14 = .ok (.invokevirtual 98, 3) := by decide +kernel
theorem dX1_isCleared_17 : decode cX1_isCleared 17 = .ok (.iload_n 1, 1) := by decide +kernel
theorem dX1_isCleared_18 : decode cX1_isCleared 18 = .ok (.invokestatic 60, 3) := by decide +kernel
theorem dX1_isCleared_21 : decode cX1_isCleared 21 = .ok (.goto 8, 3) := by decide +kernel
theorem dX1_isCleared_24 : decode cX1_isCleared 24 = .ok (.aload_n 0, 1) := by decide +kernel
theorem dX1_isCleared_25 : decode cX1_isCleared 25 = .ok (.iconst 1, 1) := by decide +kernel
theorem dX1_isCleared_26 : decode cX1_isCleared 26 = .ok (.invokevirtual 101, 3) := by decide +kernel
theorem dX1_isCleared_29 : decode cX1_isCleared 29 = .ok (.ireturn, 1) := by decide +kernel
set_option maxRecDepth 20000 in
theorem ggX1_isProved_X1_isThing : GoodIn wsX1_isProved wsX1_isThing := goodIn_r _ [6, 7, 8, 9, 5, 10, 29, 30, 31, 32, 33, 34, 35, 36, 37, 38] (by decide +kernel) (by decide +kernel)
set_option maxRecDepth 20000 in
theorem gX1_isProved_X1_isThing : GoodIn wsX1_isProved (wsV RX1 91 RX1 yX1_isThing wsX1_isThing) := goodIn_app (goodIn_of _ (by decide +kernel)) ggX1_isProved_X1_isThing
set_option maxRecDepth 20000 in
theorem ggX1_isProved_X1_proved : GoodIn wsX1_isProved wsX1_proved := goodIn_r _ [14, 15, 16, 17, 18, 19, 20, 5, 21, 22, 23, 24, 29, 30, 31, 32, 33, 34, 35, 36, 37, 38] (by decide +kernel) (by decide +kernel)
set_option maxRecDepth 20000 in
theorem gX1_isProved_X1_proved : GoodIn wsX1_isProved (wsV RX1 104 RX1 yX1_proved wsX1_proved) := goodIn_app (goodIn_of _ (by decide +kernel)) ggX1_isProved_X1_proved
set_option maxRecDepth 20000 in
theorem ggX1_isProved_X1_isNot : GoodIn wsX1_isProved wsX1_isNot := goodIn_r _ [28, 1, 29, 30, 31, 32, 33, 34, 35, 36, 37, 38] (by decide +kernel) (by decide +kernel)
set_option maxRecDepth 20000 in
theorem gX1_isProved_X1_isNot : GoodIn wsX1_isProved (wsV RX1 101 RX1 yX1_isNot wsX1_isNot) := goodIn_app (goodIn_of _ (by decide +kernel)) ggX1_isProved_X1_isNot
theorem dX1_isProved_0 : decode cX1_isProved 0 = .ok (.aload_n 0, 1) := by decide +kernel
theorem dX1_isProved_1 : decode cX1_isProved 1 = .ok (.iconst 0, 1) := by decide +kernel
theorem dX1_isProved_2 : decode cX1_isProved 2 = .ok (.putfield 26, 3) := by decide +kernel
theorem dX1_isProved_5 : decode cX1_isProved 5 = .ok (.aload_n 0, 1) := by decide +kernel
theorem dX1_isProved_6 : decode cX1_isProved 6 = .ok (.iload_n 1, 1) := by decide +kernel
theorem dX1_isProved_7 : decode cX1_isProved 7 = .ok (.invokevirtual 91, 3) := by decide +kernel
theorem dX1_isProved_10 : decode cX1_isProved 10 = .ok (.ifCond .eq 11, 3) := by decide +kernel
theorem dX1_isProved_13 : decode cX1_isProved 13 = .ok (.aload_n 0, 1) := by decide +kernel
theorem dX1_isProved_14 : decode cX1_isProved 14 = .ok (.iload_n 1, 1) := by decide +kernel
theorem dX1_isProved_15 : decode cX1_isProved 15 = .ok (.invokevirtual 104, 3) := by decide +kernel
theorem dX1_isProved_18 : decode cX1_isProved 18 = .ok (.goto 8, 3) := by decide +kernel
theorem dX1_isProved_21 : decode cX1_isProved 21 = .ok (.aload_n 0, 1) := by decide +kernel
theorem dX1_isProved_22 : decode cX1_isProved 22 = .ok (.iconst 1, 1) := by decide +kernel
theorem dX1_isProved_23 : decode cX1_isProved 23 = .ok (.invokevirtual 101, 3) := by decide +kernel
theorem dX1_isProved_26 : decode cX1_isProved 26 = .ok (.ireturn, 1) := by decide +kernel
set_option maxRecDepth 20000 in
theorem ggX1_setsWith_X1_isThing : GoodIn wsX1_setsWith wsX1_isThing := goodIn_r _ [6, 7, 8, 9, 5, 10, 36, 37, 38, 39, 40, 41, 42, 43, 44, 45] (by decide +kernel) (by decide +kernel)
set_option maxRecDepth 20000 in
theorem gX1_setsWith_X1_isThing : GoodIn wsX1_setsWith (wsV RX1 91 RX1 yX1_isThing wsX1_isThing) := goodIn_app (goodIn_of _ (by decide +kernel)) ggX1_setsWith_X1_isThing
set_option maxRecDepth 20000 in
theorem ggX1_setsWith_X1_withThing : GoodIn wsX1_setsWith wsX1_withThing := goodIn_r _ [14, 15, 16, 17, 5, 18, 7, 19, 20, 21, 22, 23, 24, 25, 26, 27, 28, 29, 30, 31, 36, 37, 38, 39, 40, 41, 42, 43, 44, 45] (by decide +kernel) (by decide +kernel)
set_option maxRecDepth 20000 in
theorem gX1_setsWith_X1_withThing : GoodIn wsX1_setsWith (wsV RX1 107 RX1 yX1_withThing wsX1_withThing) := goodIn_app (goodIn_of _ (by decide +kernel)) ggX1_setsWith_X1_withThing
set_option maxRecDepth 20000 in
theorem ggX1_setsWith_X1_no : GoodIn wsX1_setsWith wsX1_no := goodIn_r _ [35, 1, 36, 37, 38, 39, 40, 41, 42, 43, 44, 45] (by decide +kernel) (by decide +kernel)
set_option maxRecDepth 20000 in
theorem gX1_setsWith_X1_no : GoodIn wsX1_setsWith (wsV RX1 64 RX1 yX1_no wsX1_no) := goodIn_app (goodIn_of _ (by decide +kernel)) ggX1_setsWith_X1_no
theorem dX1_setsWith_0 : decode cX1_setsWith 0 = .ok (.aload_n 0, 1) := by decide +kernel
theorem dX1_setsWith_1 : decode cX1_setsWith 1 = .ok (.iconst 0, 1) := by decide +kernel
theorem dX1_setsWith_2 : decode cX1_setsWith 2 = .ok (.putfield 26, 3) := by decide +kernel
theorem dX1_setsWith_5 : decode cX1_setsWith 5 = .ok (.aload_n 0, 1) := by decide +kernel
theorem dX1_setsWith_6 : decode cX1_setsWith 6 = .ok (.iload_n 1, 1) := by decide +kernel
theorem dX1_setsWith_7 : decode cX1_setsWith 7 = .ok (.invokevirtual 91, 3) := by decide +kernel
theorem dX1_setsWith_10 : decode cX1_setsWith 10 = .ok (.ifCond .eq 11, 3) := by decide +kernel
theorem dX1_setsWith_13 : decode cX1_setsWith 13 = .ok (.aload_n 0, 1) := by decide +kernel
theorem dX1_setsWith_14 : decode cX1_setsWith 14 = .ok (.iload_n 1, 1) := by decide +kernel
theorem dX1_setsWith_15 : decode cX1_setsWith 15 = .ok (.invokevirtual 107, 3) := by decide +kernel
theorem dX1_setsWith_18 : decode cX1_setsWith 18 = .ok (.goto 8, 3) := by decide +kernel
theorem dX1_setsWith_21 : decode cX1_setsWith 21 = .ok (.aload_n 0, 1) := by decide +kernel
theorem dX1_setsWith_22 : decode cX1_setsWith 22 = .ok (.iconst 1, 1) := by decide +kernel
theorem dX1_setsWith_23 : decode cX1_setsWith 23 = .ok (.invokevirtual 64, 3) := by decide +kernel
theorem dX1_setsWith_26 : decode cX1_setsWith 26 = .ok (.ireturn, 1) := by decide +kernel
set_option maxRecDepth 20000 in
theorem ggX1_nights_X1_ok : GoodIn wsX1_nights wsX1_ok := goodIn_r _ [6, 7, 8, 9, 10, 11, 12, 13, 14, 15, 16, 17] (by decide +kernel) (by decide +kernel)
set_option maxRecDepth 20000 in
theorem gX1_nights_X1_ok : GoodIn wsX1_nights (wsV RX1 88 RX1 yX1_ok wsX1_ok) := goodIn_app (goodIn_of _ (by decide +kernel)) ggX1_nights_X1_ok
theorem dX1_nights_0 : decode cX1_nights 0 = .ok (.aload_n 0, 1) := by decide +kernel
theorem dX1_nights_1 : decode cX1_nights 1 = .ok (.aload_n 0, 1) := by decide +kernel
theorem dX1_nights_2 : decode cX1_nights 2 = .ok (.getfield 37, 3) := by decide +kernel
theorem dX1_nights_5 : decode cX1_nights 5 = .ok (.invokevirtual 88, 3) := by decide +kernel
theorem dX1_nights_8 : decode cX1_nights 8 = .ok (.ireturn, 1) := by decide +kernel
theorem dX1_smudgesNow_0 : decode cX1_smudgesNow 0 = .ok (.iconst 0, 1) := by decide +kernel
theorem dX1_smudgesNow_1 : decode cX1_smudgesNow 1 = .ok (.istore_n 1, 1) := by decide +kernel
theorem dX1_smudgesNow_2 : decode cX1_smudgesNow 2 = .ok (.iconst 0, 1) := by decide +kernel
theorem dX1_smudgesNow_3 : decode cX1_smudgesNow 3 = .ok (.istore_n 2, 1) := by decide +kernel
theorem dX1_smudgesNow_4 : decode cX1_smudgesNow 4 = .ok (.iload_n 2, 1) := by decide +kernel
theorem dX1_smudgesNow_5 : decode cX1_smudgesNow 5 = .ok (.aload_n 0, 1) := by decide +kernel
theorem dX1_smudgesNow_6 : decode cX1_smudgesNow 6 = .ok (.getfield 37, 3) := by decide +kernel
theorem dX1_smudgesNow_9 : decode cX1_smudgesNow 9 = .ok (.if_icmp .ge 26, 3) := by decide +kernel
theorem dX1_smudgesNow_12 : decode cX1_smudgesNow 12 = .ok (.iload_n 1, 1) := by decide +kernel
theorem dX1_smudgesNow_13 : decode cX1_smudgesNow 13 = .ok (.aload_n 0, 1) := by decide +kernel
theorem dX1_smudgesNow_14 : decode cX1_smudgesNow 14 = .ok (.getfield 13, 3) := by decide +kernel
theorem dX1_smudgesNow_17 : decode cX1_smudgesNow 17 = .ok (.iload_n 2, 1) := by decide +kernel
theorem dX1_smudgesNow_18 : decode cX1_smudgesNow 18 = .ok (.baload, 1) := by decide +kernel
theorem dX1_smudgesNow_19 : decode cX1_smudgesNow 19 = .ok (.ifCond .eq 7, 3) := by decide +kernel
theorem dX1_smudgesNow_22 : decode cX1_smudgesNow 22 = .ok (.iconst 1, 1) := by decide +kernel
theorem dX1_smudgesNow_23 : decode cX1_smudgesNow 23 = .ok (.goto 4, 3) := by decide +kernel
theorem dX1_smudgesNow_26 : decode cX1_smudgesNow 26 = .ok (.iconst 0, 1) := by decide +kernel
theorem dX1_smudgesNow_27 : decode cX1_smudgesNow 27 = .ok (.iadd, 1) := by decide +kernel
theorem dX1_smudgesNow_28 : decode cX1_smudgesNow 28 = .ok (.istore_n 1, 1) := by decide +kernel
theorem dX1_smudgesNow_29 : decode cX1_smudgesNow 29 = .ok (.iinc 2 1, 3) := by decide +kernel
theorem dX1_smudgesNow_32 : decode cX1_smudgesNow 32 = .ok (.goto (-28), 3) := by decide +kernel
theorem dX1_smudgesNow_35 : decode cX1_smudgesNow 35 = .ok (.iload_n 1, 1) := by decide +kernel
theorem dX1_smudgesNow_36 : decode cX1_smudgesNow 36 = .ok (.ireturn, 1) := by decide +kernel
set_option maxRecDepth 20000 in
theorem ggX1_smudges_X1_smudgesNow : GoodIn wsX1_smudges wsX1_smudgesNow := goodIn_r _ [5, 6, 7, 13, 14, 15, 16, 17, 18, 19, 20, 21, 22] (by decide +kernel) (by decide +kernel)
set_option maxRecDepth 20000 in
theorem gX1_smudges_X1_smudgesNow : GoodIn wsX1_smudges (wsV RX1 110 RX1 yX1_smudgesNow wsX1_smudgesNow) := goodIn_app (goodIn_of _ (by decide +kernel)) ggX1_smudges_X1_smudgesNow
set_option maxRecDepth 20000 in
theorem ggX1_smudges_X1_ok : GoodIn wsX1_smudges wsX1_ok := goodIn_r _ [11, 12, 13, 14, 15, 16, 17, 18, 19, 20, 21, 22] (by decide +kernel) (by decide +kernel)
set_option maxRecDepth 20000 in
theorem gX1_smudges_X1_ok : GoodIn wsX1_smudges (wsV RX1 88 RX1 yX1_ok wsX1_ok) := goodIn_app (goodIn_of _ (by decide +kernel)) ggX1_smudges_X1_ok
theorem dX1_smudges_0 : decode cX1_smudges 0 = .ok (.aload_n 0, 1) := by decide +kernel
theorem dX1_smudges_1 : decode cX1_smudges 1 = .ok (.aload_n 0, 1) := by decide +kernel
theorem dX1_smudges_2 : decode cX1_smudges 2 = .ok (.invokevirtual 110, 3) := by decide +kernel
theorem dX1_smudges_5 : decode cX1_smudges 5 = .ok (.invokevirtual 88, 3) := by decide +kernel
theorem dX1_smudges_8 : decode cX1_smudges 8 = .ok (.ireturn, 1) := by decide +kernel
set_option maxRecDepth 20000 in
theorem ggX1_usedIn_X1_isNight : GoodIn wsX1_usedIn wsX1_isNight := goodIn_r _ [7, 8, 9, 10, 6, 11, 16, 17, 18, 19, 20, 21, 22, 23, 24, 25] (by decide +kernel) (by decide +kernel)
set_option maxRecDepth 20000 in
theorem gX1_usedIn_X1_isNight : GoodIn wsX1_usedIn (wsV RX1 85 RX1 yX1_isNight wsX1_isNight) := goodIn_app (goodIn_of _ (by decide +kernel)) ggX1_usedIn_X1_isNight
set_option maxRecDepth 20000 in
theorem ggX1_usedIn_X1_no : GoodIn wsX1_usedIn wsX1_no := goodIn_r _ [15, 1, 16, 17, 18, 19, 20, 21, 22, 23, 24, 25] (by decide +kernel) (by decide +kernel)
set_option maxRecDepth 20000 in
theorem gX1_usedIn_X1_no : GoodIn wsX1_usedIn (wsV RX1 64 RX1 yX1_no wsX1_no) := goodIn_app (goodIn_of _ (by decide +kernel)) ggX1_usedIn_X1_no
theorem dX1_usedIn_0 : decode cX1_usedIn 0 = .ok (.aload_n 0, 1) := by decide +kernel
theorem dX1_usedIn_1 : decode cX1_usedIn 1 = .ok (.iconst 0, 1) := by decide +kernel
theorem dX1_usedIn_2 : decode cX1_usedIn 2 = .ok (.putfield 26, 3) := by decide +kernel
theorem dX1_usedIn_5 : decode cX1_usedIn 5 = .ok (.aload_n 0, 1) := by decide +kernel
theorem dX1_usedIn_6 : decode cX1_usedIn 6 = .ok (.iload_n 1, 1) := by decide +kernel
theorem dX1_usedIn_7 : decode cX1_usedIn 7 = .ok (.invokevirtual 85, 3) := by decide +kernel
theorem dX1_usedIn_10 : decode cX1_usedIn 10 = .ok (.ifCond .eq 12, 3) := by decide +kernel
theorem dX1_usedIn_13 : decode cX1_usedIn 13 = .ok (.aload_n 0, 1) := by decide +kernel
theorem dX1_usedIn_14 : decode cX1_usedIn 14 = .ok (.getfield 9, 3) := by decide +kernel
theorem dX1_usedIn_17 : decode cX1_usedIn 17 = .ok (.iload_n 1, 1) := by decide +kernel
theorem dX1_usedIn_18 : decode cX1_usedIn 18 = .ok (.iaload, 1) := by decide +kernel
theorem dX1_usedIn_19 : decode cX1_usedIn 19 = .ok (.goto 8, 3) := by decide +kernel
theorem dX1_usedIn_22 : decode cX1_usedIn 22 = .ok (.aload_n 0, 1) := by decide +kernel
theorem dX1_usedIn_23 : decode cX1_usedIn 23 = .ok (.iconst 1, 1) := by decide +kernel
theorem dX1_usedIn_24 : decode cX1_usedIn 24 = .ok (.invokevirtual 64, 3) := by decide +kernel
theorem dX1_usedIn_27 : decode cX1_usedIn 27 = .ok (.ireturn, 1) := by decide +kernel
set_option maxRecDepth 20000 in
theorem ggX1_isSmudged_X1_isNight : GoodIn wsX1_isSmudged wsX1_isNight := goodIn_r _ [7, 8, 9, 10, 6, 11, 16, 17, 18, 19, 20, 21, 22, 23, 24, 25] (by decide +kernel) (by decide +kernel)
set_option maxRecDepth 20000 in
theorem gX1_isSmudged_X1_isNight : GoodIn wsX1_isSmudged (wsV RX1 85 RX1 yX1_isNight wsX1_isNight) := goodIn_app (goodIn_of _ (by decide +kernel)) ggX1_isSmudged_X1_isNight
set_option maxRecDepth 20000 in
theorem ggX1_isSmudged_X1_isNot : GoodIn wsX1_isSmudged wsX1_isNot := goodIn_r _ [15, 1, 16, 17, 18, 19, 20, 21, 22, 23, 24, 25] (by decide +kernel) (by decide +kernel)
set_option maxRecDepth 20000 in
theorem gX1_isSmudged_X1_isNot : GoodIn wsX1_isSmudged (wsV RX1 101 RX1 yX1_isNot wsX1_isNot) := goodIn_app (goodIn_of _ (by decide +kernel)) ggX1_isSmudged_X1_isNot
theorem dX1_isSmudged_0 : decode cX1_isSmudged 0 = .ok (.aload_n 0, 1) := by decide +kernel
theorem dX1_isSmudged_1 : decode cX1_isSmudged 1 = .ok (.iconst 0, 1) := by decide +kernel
theorem dX1_isSmudged_2 : decode cX1_isSmudged 2 = .ok (.putfield 26, 3) := by decide +kernel
theorem dX1_isSmudged_5 : decode cX1_isSmudged 5 = .ok (.aload_n 0, 1) := by decide +kernel
theorem dX1_isSmudged_6 : decode cX1_isSmudged 6 = .ok (.iload_n 1, 1) := by decide +kernel
theorem dX1_isSmudged_7 : decode cX1_isSmudged 7 = .ok (.invokevirtual 85, 3) := by decide +kernel
theorem dX1_isSmudged_10 : decode cX1_isSmudged 10 = .ok (.ifCond .eq 12, 3) := by decide +kernel
theorem dX1_isSmudged_13 : decode cX1_isSmudged 13 = .ok (.aload_n 0, 1) := by decide +kernel
theorem dX1_isSmudged_14 : decode cX1_isSmudged 14 = .ok (.getfield 13, 3) := by decide +kernel
theorem dX1_isSmudged_17 : decode cX1_isSmudged 17 = .ok (.iload_n 1, 1) := by decide +kernel
theorem dX1_isSmudged_18 : decode cX1_isSmudged 18 = .ok (.baload, 1) := by decide +kernel
theorem dX1_isSmudged_19 : decode cX1_isSmudged 19 = .ok (.goto 8, 3) := by decide +kernel
theorem dX1_isSmudged_22 : decode cX1_isSmudged 22 = .ok (.aload_n 0, 1) := by decide +kernel
theorem dX1_isSmudged_23 : decode cX1_isSmudged 23 = .ok (.iconst 1, 1) := by decide +kernel
theorem dX1_isSmudged_24 : decode cX1_isSmudged 24 = .ok (.invokevirtual 101, 3) := by decide +kernel
theorem dX1_isSmudged_27 : decode cX1_isSmudged 27 = .ok (.ireturn, 1) := by decide +kernel
set_option maxRecDepth 20000 in
theorem ggX1_agree_X1_fewest : GoodIn wsX1_agree wsX1_fewest := goodIn_r _ [6, 7, 8, 9, 5, 10, 11, 12, 13, 14, 15, 16, 17, 18, 19, 20, 21, 22, 23, 24, 25, 26, 27, 28, 29, 30, 31, 32, 33, 34, 35, 36, 37, 38] (by decide +kernel) (by decide +kernel)
set_option maxRecDepth 20000 in
theorem gX1_agree_X1_fewest : GoodIn wsX1_agree (wsV RX1 79 RX1 yX1_fewest wsX1_fewest) := goodIn_app (goodIn_of _ (by decide +kernel)) ggX1_agree_X1_fewest
theorem dX1_agree_0 : decode cX1_agree 0 = .ok (.aload_n 0, 1) := by decide +kernel
theorem dX1_agree_1 : decode cX1_agree 1 = .ok (.iconst 0, 1) := by decide +kernel
theorem dX1_agree_2 : decode cX1_agree 2 = .ok (.putfield 26, 3) := by decide +kernel
theorem dX1_agree_5 : decode cX1_agree 5 = .ok (.aload_n 0, 1) := by decide +kernel
theorem dX1_agree_6 : decode cX1_agree 6 = .ok (.invokevirtual 79, 3) := by decide +kernel
theorem dX1_agree_9 : decode cX1_agree 9 = .ok (.iconst (-1), 1) := by decide +kernel
theorem dX1_agree_10 : decode cX1_agree 10 = .ok (.if_icmp .eq 7, 3) := by decide +kernel
theorem dX1_agree_13 : decode cX1_agree 13 = .ok (.iconst 1, 1) := by decide +kernel
theorem dX1_agree_14 : decode cX1_agree 14 = .ok (.goto 4, 3) := by decide +kernel
theorem dX1_agree_17 : decode cX1_agree 17 = .ok (.iconst 0, 1) := by decide +kernel
theorem dX1_agree_18 : decode cX1_agree 18 = .ok (.ireturn, 1) := by decide +kernel
set_option maxRecDepth 20000 in
theorem ggX1_astronomers_X1_ok : GoodIn wsX1_astronomers wsX1_ok := goodIn_r _ [6, 7, 8, 9, 10, 11, 12, 13, 14, 15, 16, 17] (by decide +kernel) (by decide +kernel)
set_option maxRecDepth 20000 in
theorem gX1_astronomers_X1_ok : GoodIn wsX1_astronomers (wsV RX1 88 RX1 yX1_ok wsX1_ok) := goodIn_app (goodIn_of _ (by decide +kernel)) ggX1_astronomers_X1_ok
theorem dX1_astronomers_0 : decode cX1_astronomers 0 = .ok (.aload_n 0, 1) := by decide +kernel
theorem dX1_astronomers_1 : decode cX1_astronomers 1 = .ok (.aload_n 0, 1) := by decide +kernel
theorem dX1_astronomers_2 : decode cX1_astronomers 2 = .ok (.getfield 40, 3) := by decide +kernel
theorem dX1_astronomers_5 : decode cX1_astronomers 5 = .ok (.invokevirtual 88, 3) := by decide +kernel
theorem dX1_astronomers_8 : decode cX1_astronomers 8 = .ok (.ireturn, 1) := by decide +kernel
set_option maxRecDepth 20000 in
theorem ggX1_blamedBy_X1_isAstronomer : GoodIn wsX1_blamedBy wsX1_isAstronomer := goodIn_r _ [7, 8, 9, 10, 6, 11, 16, 17, 18, 19, 20, 21, 22, 23, 24, 25] (by decide +kernel) (by decide +kernel)
set_option maxRecDepth 20000 in
theorem gX1_blamedBy_X1_isAstronomer : GoodIn wsX1_blamedBy (wsV RX1 67 RX1 yX1_isAstronomer wsX1_isAstronomer) := goodIn_app (goodIn_of _ (by decide +kernel)) ggX1_blamedBy_X1_isAstronomer
set_option maxRecDepth 20000 in
theorem ggX1_blamedBy_X1_no : GoodIn wsX1_blamedBy wsX1_no := goodIn_r _ [15, 1, 16, 17, 18, 19, 20, 21, 22, 23, 24, 25] (by decide +kernel) (by decide +kernel)
set_option maxRecDepth 20000 in
theorem gX1_blamedBy_X1_no : GoodIn wsX1_blamedBy (wsV RX1 64 RX1 yX1_no wsX1_no) := goodIn_app (goodIn_of _ (by decide +kernel)) ggX1_blamedBy_X1_no
theorem dX1_blamedBy_0 : decode cX1_blamedBy 0 = .ok (.aload_n 0, 1) := by decide +kernel
theorem dX1_blamedBy_1 : decode cX1_blamedBy 1 = .ok (.iconst 0, 1) := by decide +kernel
theorem dX1_blamedBy_2 : decode cX1_blamedBy 2 = .ok (.putfield 26, 3) := by decide +kernel
theorem dX1_blamedBy_5 : decode cX1_blamedBy 5 = .ok (.aload_n 0, 1) := by decide +kernel
theorem dX1_blamedBy_6 : decode cX1_blamedBy 6 = .ok (.iload_n 1, 1) := by decide +kernel
theorem dX1_blamedBy_7 : decode cX1_blamedBy 7 = .ok (.invokevirtual 67, 3) := by decide +kernel
theorem dX1_blamedBy_10 : decode cX1_blamedBy 10 = .ok (.ifCond .eq 12, 3) := by decide +kernel
theorem dX1_blamedBy_13 : decode cX1_blamedBy 13 = .ok (.aload_n 0, 1) := by decide +kernel
theorem dX1_blamedBy_14 : decode cX1_blamedBy 14 = .ok (.getfield 23, 3) := by decide +kernel
theorem dX1_blamedBy_17 : decode cX1_blamedBy 17 = .ok (.iload_n 1, 1) := by decide +kernel
theorem dX1_blamedBy_18 : decode cX1_blamedBy 18 = .ok (.iaload, 1) := by decide +kernel
theorem dX1_blamedBy_19 : decode cX1_blamedBy 19 = .ok (.goto 8, 3) := by decide +kernel
theorem dX1_blamedBy_22 : decode cX1_blamedBy 22 = .ok (.aload_n 0, 1) := by decide +kernel
theorem dX1_blamedBy_23 : decode cX1_blamedBy 23 = .ok (.iconst 1, 1) := by decide +kernel
theorem dX1_blamedBy_24 : decode cX1_blamedBy 24 = .ok (.invokevirtual 64, 3) := by decide +kernel
theorem dX1_blamedBy_27 : decode cX1_blamedBy 27 = .ok (.ireturn, 1) := by decide +kernel
set_option maxRecDepth 20000 in
theorem ggX1_stubbornnessOf_X1_isAstronomer : GoodIn wsX1_stubbornnessOf wsX1_isAstronomer := goodIn_r _ [7, 8, 9, 10, 6, 11, 16, 17, 18, 19, 20, 21, 22, 23, 24, 25] (by decide +kernel) (by decide +kernel)
set_option maxRecDepth 20000 in
theorem gX1_stubbornnessOf_X1_isAstronomer : GoodIn wsX1_stubbornnessOf (wsV RX1 67 RX1 yX1_isAstronomer wsX1_isAstronomer) := goodIn_app (goodIn_of _ (by decide +kernel)) ggX1_stubbornnessOf_X1_isAstronomer
set_option maxRecDepth 20000 in
theorem ggX1_stubbornnessOf_X1_no : GoodIn wsX1_stubbornnessOf wsX1_no := goodIn_r _ [15, 1, 16, 17, 18, 19, 20, 21, 22, 23, 24, 25] (by decide +kernel) (by decide +kernel)
set_option maxRecDepth 20000 in
theorem gX1_stubbornnessOf_X1_no : GoodIn wsX1_stubbornnessOf (wsV RX1 64 RX1 yX1_no wsX1_no) := goodIn_app (goodIn_of _ (by decide +kernel)) ggX1_stubbornnessOf_X1_no
theorem dX1_stubbornnessOf_0 : decode cX1_stubbornnessOf 0 = .ok (.aload_n 0, 1) := by decide +kernel
theorem dX1_stubbornnessOf_1 : decode cX1_stubbornnessOf 1 = .ok (.iconst 0, 1) := by decide +kernel
theorem dX1_stubbornnessOf_2 : decode cX1_stubbornnessOf 2 = .ok (.putfield 26, 3) := by decide +kernel
theorem dX1_stubbornnessOf_5 : decode cX1_stubbornnessOf 5 = .ok (.aload_n 0, 1) := by decide +kernel
theorem dX1_stubbornnessOf_6 : decode cX1_stubbornnessOf 6 = .ok (.iload_n 1, 1) := by decide +kernel
theorem dX1_stubbornnessOf_7 : decode cX1_stubbornnessOf 7 = .ok (.invokevirtual 67, 3) := by decide +kernel
theorem dX1_stubbornnessOf_10 : decode cX1_stubbornnessOf 10 = .ok (.ifCond .eq 12, 3) := by decide +kernel
theorem dX1_stubbornnessOf_13 : decode cX1_stubbornnessOf 13 = .ok (.aload_n 0, 1) := by decide +kernel
theorem dX1_stubbornnessOf_14 : decode cX1_stubbornnessOf 14 = .ok (.getfield 20, 3) := by decide +kernel
theorem dX1_stubbornnessOf_17 : decode cX1_stubbornnessOf 17 = .ok (.iload_n 1, 1) := by decide +kernel
theorem dX1_stubbornnessOf_18 : decode cX1_stubbornnessOf 18 = .ok (.iaload, 1) := by decide +kernel
theorem dX1_stubbornnessOf_19 : decode cX1_stubbornnessOf 19 = .ok (.goto 8, 3) := by decide +kernel
theorem dX1_stubbornnessOf_22 : decode cX1_stubbornnessOf 22 = .ok (.aload_n 0, 1) := by decide +kernel
theorem dX1_stubbornnessOf_23 : decode cX1_stubbornnessOf 23 = .ok (.iconst 1, 1) := by decide +kernel
theorem dX1_stubbornnessOf_24 : decode cX1_stubbornnessOf 24 = .ok (.invokevirtual 64, 3) := by decide +kernel
theorem dX1_stubbornnessOf_27 : decode cX1_stubbornnessOf 27 = .ok (.ireturn, 1) := by decide +kernel
set_option maxRecDepth 20000 in
theorem ggX1_unexplainedBy_X1_isAstronomer : GoodIn wsX1_unexplainedBy wsX1_isAstronomer := goodIn_r _ [7, 8, 9, 10, 6, 11, 26, 27, 28, 29, 30, 31, 32, 33, 34, 35] (by decide +kernel) (by decide +kernel)
set_option maxRecDepth 20000 in
theorem gX1_unexplainedBy_X1_isAstronomer : GoodIn wsX1_unexplainedBy (wsV RX1 67 RX1 yX1_isAstronomer wsX1_isAstronomer) := goodIn_app (goodIn_of _ (by decide +kernel)) ggX1_unexplainedBy_X1_isAstronomer
set_option maxRecDepth 20000 in
theorem ggX1_unexplainedBy_X1_unexplained : GoodIn wsX1_unexplainedBy wsX1_unexplained := goodIn_r _ [15, 16, 17, 18, 19, 20, 6, 21, 26, 27, 28, 29, 30, 31, 32, 33, 34, 35] (by decide +kernel) (by decide +kernel)
set_option maxRecDepth 20000 in
theorem gX1_unexplainedBy_X1_unexplained : GoodIn wsX1_unexplainedBy (wsV RX1 51 RX1 yX1_unexplained wsX1_unexplained) := goodIn_app (goodIn_of _ (by decide +kernel)) ggX1_unexplainedBy_X1_unexplained
set_option maxRecDepth 20000 in
theorem ggX1_unexplainedBy_X1_no : GoodIn wsX1_unexplainedBy wsX1_no := goodIn_r _ [25, 1, 26, 27, 28, 29, 30, 31, 32, 33, 34, 35] (by decide +kernel) (by decide +kernel)
set_option maxRecDepth 20000 in
theorem gX1_unexplainedBy_X1_no : GoodIn wsX1_unexplainedBy (wsV RX1 64 RX1 yX1_no wsX1_no) := goodIn_app (goodIn_of _ (by decide +kernel)) ggX1_unexplainedBy_X1_no
theorem dX1_unexplainedBy_0 : decode cX1_unexplainedBy 0 = .ok (.aload_n 0, 1) := by decide +kernel
theorem dX1_unexplainedBy_1 : decode cX1_unexplainedBy 1 = .ok (.iconst 0, 1) := by decide +kernel
theorem dX1_unexplainedBy_2 : decode cX1_unexplainedBy 2 = .ok (.putfield 26, 3) := by decide +kernel
theorem dX1_unexplainedBy_5 : decode cX1_unexplainedBy 5 = .ok (.aload_n 0, 1) := by decide +kernel
theorem dX1_unexplainedBy_6 : decode cX1_unexplainedBy 6 = .ok (.iload_n 1, 1) := by decide +kernel
theorem dX1_unexplainedBy_7 : decode cX1_unexplainedBy 7 = .ok (.invokevirtual 67, 3) := by decide +kernel
theorem dX1_unexplainedBy_10 : decode cX1_unexplainedBy 10 = .ok (.ifCond .eq 16, 3) := by decide +kernel
theorem dX1_unexplainedBy_13 : decode cX1_unexplainedBy 13 = .ok (.aload_n 0, 1) := by decide +kernel
theorem dX1_unexplainedBy_14 : decode cX1_unexplainedBy 14 = .ok (.aload_n 0, 1) := by decide +kernel
theorem dX1_unexplainedBy_15 : decode cX1_unexplainedBy 15 = .ok (.getfield 23, 3) := by decide +kernel
theorem dX1_unexplainedBy_18 : decode cX1_unexplainedBy 18 = .ok (.iload_n 1, 1) := by decide +kernel
theorem dX1_unexplainedBy_19 : decode cX1_unexplainedBy 19 = .ok (.iaload, 1) := by decide +kernel
theorem dX1_unexplainedBy_20 : decode cX1_unexplainedBy 20 = .ok (.invokevirtual 51, 3) := by decide +kernel
theorem dX1_unexplainedBy_23 : decode cX1_unexplainedBy 23 = .ok (.goto 8, 3) := by decide +kernel
theorem dX1_unexplainedBy_26 : decode cX1_unexplainedBy 26 = .ok (.aload_n 0, 1) := by decide +kernel
theorem dX1_unexplainedBy_27 : decode cX1_unexplainedBy 27 = .ok (.iconst 1, 1) := by decide +kernel
theorem dX1_unexplainedBy_28 : decode cX1_unexplainedBy 28 = .ok (.invokevirtual 64, 3) := by decide +kernel
theorem dX1_unexplainedBy_31 : decode cX1_unexplainedBy 31 = .ok (.ireturn, 1) := by decide +kernel
set_option maxRecDepth 20000 in
theorem ggX1_votes_X1_has : GoodIn wsX1_votes wsX1_has := goodIn_r _ [6] (by decide +kernel) (by decide +kernel)
set_option maxRecDepth 20000 in
theorem gX1_votes_X1_has : GoodIn wsX1_votes (va_wsS RX1 60 yX1_has wsX1_has) := goodIn_app (goodIn_of _ (by decide +kernel)) ggX1_votes_X1_has
theorem dX1_votes_0 : decode cX1_votes 0 = .ok (.iconst 0, 1) := by decide +kernel
theorem dX1_votes_1 : decode cX1_votes 1 = .ok (.istore_n 2, 1) := by decide +kernel
theorem dX1_votes_2 : decode cX1_votes 2 = .ok (.iconst 0, 1) := by decide +kernel
theorem dX1_votes_3 : decode cX1_votes 3 = .ok (.istore_n 3, 1) := by decide +kernel
theorem dX1_votes_4 : decode cX1_votes 4 = .ok (.iload_n 3, 1) := by decide +kernel
theorem dX1_votes_5 : decode cX1_votes 5 = .ok (.aload_n 0, 1) := by decide +kernel
theorem dX1_votes_6 : decode cX1_votes 6 = .ok (.getfield 40, 3) := by decide +kernel
theorem dX1_votes_9 : decode cX1_votes 9 = .ok (.if_icmp .ge 30, 3) := by decide +kernel
theorem dX1_votes_12 : decode cX1_votes 12 = .ok (.iload_n 2, 1) := by decide +kernel
theorem dX1_votes_13 : decode cX1_votes 13 = .ok (.aload_n 0, 1) := by decide +kernel
theorem dX1_votes_14 : decode cX1_votes 14 = .ok (.getfield 23, 3) := by decide +kernel
theorem dX1_votes_17 : decode cX1_votes 17 = .ok (.iload_n 3, 1) := by decide +kernel
theorem dX1_votes_18 : decode cX1_votes 18 = .ok (.iaload, 1) := by decide +kernel
theorem dX1_votes_19 : decode cX1_votes 19 = .ok (.iload_n 1, 1) := by decide +kernel
theorem dX1_votes_20 : decode cX1_votes 20 = .ok (.invokestatic 60, 3) := by decide +kernel
theorem dX1_votes_23 : decode cX1_votes 23 = .ok (.ifCond .eq 7, 3) := by decide +kernel
theorem dX1_votes_26 : decode cX1_votes 26 = .ok (.iconst 1, 1) := by decide +kernel
theorem dX1_votes_27 : decode cX1_votes 27 = .ok (.goto 4, 3) := by decide +kernel
theorem dX1_votes_30 : decode cX1_votes 30 = .ok (.iconst 0, 1) := by decide +kernel
theorem dX1_votes_31 : decode cX1_votes 31 = .ok (.iadd, 1) := by decide +kernel
theorem dX1_votes_32 : decode cX1_votes 32 = .ok (.istore_n 2, 1) := by decide +kernel
theorem dX1_votes_33 : decode cX1_votes 33 = .ok (.iinc 3 1, 3) := by decide +kernel
theorem dX1_votes_36 : decode cX1_votes 36 = .ok (.goto (-32), 3) := by decide +kernel
theorem dX1_votes_39 : decode cX1_votes 39 = .ok (.iload_n 2, 1) := by decide +kernel
theorem dX1_votes_40 : decode cX1_votes 40 = .ok (.ireturn, 1) := by decide +kernel
set_option maxRecDepth 20000 in
theorem ggX1_votesFor_X1_isThing : GoodIn wsX1_votesFor wsX1_isThing := goodIn_r _ [6, 7, 8, 9, 5, 10, 24, 25, 26, 27, 28, 29, 30, 31, 32, 33] (by decide +kernel) (by decide +kernel)
set_option maxRecDepth 20000 in
theorem gX1_votesFor_X1_isThing : GoodIn wsX1_votesFor (wsV RX1 91 RX1 yX1_isThing wsX1_isThing) := goodIn_app (goodIn_of _ (by decide +kernel)) ggX1_votesFor_X1_isThing
set_option maxRecDepth 20000 in
theorem ggX1_votesFor_X1_votes : GoodIn wsX1_votesFor wsX1_votes := goodIn_r _ [14, 15, 16, 17, 18, 5, 19, 24, 25, 26, 27, 28, 29, 30, 31, 32, 33] (by decide +kernel) (by decide +kernel)
set_option maxRecDepth 20000 in
theorem gX1_votesFor_X1_votes : GoodIn wsX1_votesFor (wsV RX1 113 RX1 yX1_votes wsX1_votes) := goodIn_app (goodIn_of _ (by decide +kernel)) ggX1_votesFor_X1_votes
set_option maxRecDepth 20000 in
theorem ggX1_votesFor_X1_no : GoodIn wsX1_votesFor wsX1_no := goodIn_r _ [23, 1, 24, 25, 26, 27, 28, 29, 30, 31, 32, 33] (by decide +kernel) (by decide +kernel)
set_option maxRecDepth 20000 in
theorem gX1_votesFor_X1_no : GoodIn wsX1_votesFor (wsV RX1 64 RX1 yX1_no wsX1_no) := goodIn_app (goodIn_of _ (by decide +kernel)) ggX1_votesFor_X1_no
theorem dX1_votesFor_0 : decode cX1_votesFor 0 = .ok (.aload_n 0, 1) := by decide +kernel
theorem dX1_votesFor_1 : decode cX1_votesFor 1 = .ok (.iconst 0, 1) := by decide +kernel
theorem dX1_votesFor_2 : decode cX1_votesFor 2 = .ok (.putfield 26, 3) := by decide +kernel
theorem dX1_votesFor_5 : decode cX1_votesFor 5 = .ok (.aload_n 0, 1) := by decide +kernel
theorem dX1_votesFor_6 : decode cX1_votesFor 6 = .ok (.iload_n 1, 1) := by decide +kernel
theorem dX1_votesFor_7 : decode cX1_votesFor 7 = .ok (.invokevirtual 91, 3) := by decide +kernel
theorem dX1_votesFor_10 : decode cX1_votesFor 10 = .ok (.ifCond .eq 11, 3) := by decide +kernel
theorem dX1_votesFor_13 : decode cX1_votesFor 13 = .ok (.aload_n 0, 1) := by decide +kernel
theorem dX1_votesFor_14 : decode cX1_votesFor 14 = .ok (.iload_n 1, 1) := by decide +kernel
theorem dX1_votesFor_15 : decode cX1_votesFor 15 = .ok (.invokevirtual 113, 3) := by decide +kernel
theorem dX1_votesFor_18 : decode cX1_votesFor 18 = .ok (.goto 8, 3) := by decide +kernel
theorem dX1_votesFor_21 : decode cX1_votesFor 21 = .ok (.aload_n 0, 1) := by decide +kernel
theorem dX1_votesFor_22 : decode cX1_votesFor 22 = .ok (.iconst 1, 1) := by decide +kernel
theorem dX1_votesFor_23 : decode cX1_votesFor 23 = .ok (.invokevirtual 64, 3) := by decide +kernel
theorem dX1_votesFor_26 : decode cX1_votesFor 26 = .ok (.ireturn, 1) := by decide +kernel
set_option maxRecDepth 20000 in
theorem ggX1_voted_X1_votes : GoodIn wsX1_voted wsX1_votes := goodIn_r _ [7, 2, 8, 9, 10, 6, 11, 12, 13, 14, 15, 16, 17, 18, 19, 20, 21] (by decide +kernel) (by decide +kernel)
set_option maxRecDepth 20000 in
theorem gX1_voted_X1_votes : GoodIn wsX1_voted (wsV RX1 113 RX1 yX1_votes wsX1_votes) := goodIn_app (goodIn_of _ (by decide +kernel)) ggX1_voted_X1_votes
theorem dX1_voted_0 : decode cX1_voted 0 = .ok (.iconst 0, 1) := by decide +kernel
theorem dX1_voted_1 : decode cX1_voted 1 = .ok (.istore_n 1, 1) := by decide +kernel
theorem dX1_voted_2 : decode cX1_voted 2 = .ok (.iconst 0, 1) := by decide +kernel
theorem dX1_voted_3 : decode cX1_voted 3 = .ok (.istore_n 2, 1) := by decide +kernel
theorem dX1_voted_4 : decode cX1_voted 4 = .ok (.iload_n 2, 1) := by decide +kernel
theorem dX1_voted_5 : decode cX1_voted 5 = .ok (.aload_n 0, 1) := by decide +kernel
theorem dX1_voted_6 : decode cX1_voted 6 = .ok (.getfield 30, 3) := by decide +kernel
theorem dX1_voted_9 : decode cX1_voted 9 = .ok (.if_icmp .ge 29, 3) := by decide +kernel
theorem dX1_voted_12 : decode cX1_voted 12 = .ok (.iconst 2, 1) := by decide +kernel
theorem dX1_voted_13 : decode cX1_voted 13 = .ok (.aload_n 0, 1) := by decide +kernel
theorem dX1_voted_14 : decode cX1_voted 14 = .ok (.iload_n 2, 1) := by decide +kernel
theorem dX1_voted_15 : decode cX1_voted 15 = .ok (.invokevirtual 113, 3) := by decide +kernel
theorem dX1_voted_18 : decode cX1_voted 18 = .ok (.imul, 1) := by decide +kernel
theorem dX1_voted_19 : decode cX1_voted 19 = .ok (.aload_n 0, 1) := by decide +kernel
theorem dX1_voted_20 : decode cX1_voted 20 = .ok (.getfield 40, 3) := by decide +kernel
theorem dX1_voted_23 : decode cX1_voted 23 = .ok (.if_icmp .le 9, 3) := by decide +kernel
theorem dX1_voted_26 : decode cX1_voted 26 = .ok (.iload_n 1, 1) := by decide +kernel
theorem dX1_voted_27 : decode cX1_voted 27 = .ok (.iconst 1, 1) := by decide +kernel
theorem dX1_voted_28 : decode cX1_voted 28 = .ok (.iload_n 2, 1) := by decide +kernel
theorem dX1_voted_29 : decode cX1_voted 29 = .ok (.ishl, 1) := by decide +kernel
theorem dX1_voted_30 : decode cX1_voted 30 = .ok (.ior, 1) := by decide +kernel
theorem dX1_voted_31 : decode cX1_voted 31 = .ok (.istore_n 1, 1) := by decide +kernel
theorem dX1_voted_32 : decode cX1_voted 32 = .ok (.iinc 2 1, 3) := by decide +kernel
theorem dX1_voted_35 : decode cX1_voted 35 = .ok (.goto (-31), 3) := by decide +kernel
theorem dX1_voted_38 : decode cX1_voted 38 = .ok (.iload_n 1, 1) := by decide +kernel
theorem dX1_voted_39 : decode cX1_voted 39 = .ok (.ireturn, 1) := by decide +kernel
set_option maxRecDepth 20000 in
theorem ggX1_vote_X1_voted : GoodIn wsX1_vote wsX1_voted := goodIn_r _ [5, 6, 7, 8, 9, 10, 4, 11, 12, 13, 14, 15, 21, 22, 23, 24, 25, 26, 27, 28, 29, 30] (by decide +kernel) (by decide +kernel)
set_option maxRecDepth 20000 in
theorem gX1_vote_X1_voted : GoodIn wsX1_vote (wsV RX1 116 RX1 yX1_voted wsX1_voted) := goodIn_app (goodIn_of _ (by decide +kernel)) ggX1_vote_X1_voted
set_option maxRecDepth 20000 in
theorem ggX1_vote_X1_ok : GoodIn wsX1_vote wsX1_ok := goodIn_r _ [19, 20, 21, 22, 23, 24, 25, 26, 27, 28, 29, 30] (by decide +kernel) (by decide +kernel)
set_option maxRecDepth 20000 in
theorem gX1_vote_X1_ok : GoodIn wsX1_vote (wsV RX1 88 RX1 yX1_ok wsX1_ok) := goodIn_app (goodIn_of _ (by decide +kernel)) ggX1_vote_X1_ok
theorem dX1_vote_0 : decode cX1_vote 0 = .ok (.aload_n 0, 1) := by decide +kernel
theorem dX1_vote_1 : decode cX1_vote 1 = .ok (.aload_n 0, 1) := by decide +kernel
theorem dX1_vote_2 : decode cX1_vote 2 = .ok (.invokevirtual 116, 3) := by decide +kernel
theorem dX1_vote_5 : decode cX1_vote 5 = .ok (.invokevirtual 88, 3) := by decide +kernel
theorem dX1_vote_8 : decode cX1_vote 8 = .ok (.ireturn, 1) := by decide +kernel
set_option maxRecDepth 20000 in
theorem ggX1_changesOfMind_X1_ok : GoodIn wsX1_changesOfMind wsX1_ok := goodIn_r _ [6, 7, 8, 9, 10, 11, 12, 13, 14, 15, 16, 17] (by decide +kernel) (by decide +kernel)
set_option maxRecDepth 20000 in
theorem gX1_changesOfMind_X1_ok : GoodIn wsX1_changesOfMind (wsV RX1 88 RX1 yX1_ok wsX1_ok) := goodIn_app (goodIn_of _ (by decide +kernel)) ggX1_changesOfMind_X1_ok
theorem dX1_changesOfMind_0 : decode cX1_changesOfMind 0 = .ok (.aload_n 0, 1) := by decide +kernel
theorem dX1_changesOfMind_1 : decode cX1_changesOfMind 1 = .ok (.aload_n 0, 1) := by decide +kernel
theorem dX1_changesOfMind_2 : decode cX1_changesOfMind 2 = .ok (.getfield 82, 3) := by decide +kernel
theorem dX1_changesOfMind_5 : decode cX1_changesOfMind 5 = .ok (.invokevirtual 88, 3) := by decide +kernel
theorem dX1_changesOfMind_8 : decode cX1_changesOfMind 8 = .ok (.ireturn, 1) := by decide +kernel
set_option maxRecDepth 20000 in
theorem ggX1_explainsAll_X1_all : GoodIn wsX1_explainsAll wsX1_all := goodIn_r _ [6, 7, 25, 26, 27, 28, 29, 30, 31, 32, 33, 34] (by decide +kernel) (by decide +kernel)
set_option maxRecDepth 20000 in
theorem gX1_explainsAll_X1_all : GoodIn wsX1_explainsAll (wsV RX1 47 RX1 yX1_all wsX1_all) := goodIn_app (goodIn_of _ (by decide +kernel)) ggX1_explainsAll_X1_all
set_option maxRecDepth 20000 in
theorem ggX1_explainsAll_X1_isIn : GoodIn wsX1_explainsAll wsX1_isIn := goodIn_r _ [10] (by decide +kernel) (by decide +kernel)
set_option maxRecDepth 20000 in
theorem gX1_explainsAll_X1_isIn : GoodIn wsX1_explainsAll (va_wsS RX1 33 yX1_isIn wsX1_isIn) := goodIn_app (goodIn_of _ (by decide +kernel)) ggX1_explainsAll_X1_isIn
set_option maxRecDepth 20000 in
theorem ggX1_explainsAll_X1_unexplained : GoodIn wsX1_explainsAll wsX1_unexplained := goodIn_r _ [14, 15, 16, 17, 18, 19, 5, 20, 25, 26, 27, 28, 29, 30, 31, 32, 33, 34] (by decide +kernel) (by decide +kernel)
set_option maxRecDepth 20000 in
theorem gX1_explainsAll_X1_unexplained : GoodIn wsX1_explainsAll (wsV RX1 51 RX1 yX1_unexplained wsX1_unexplained) := goodIn_app (goodIn_of _ (by decide +kernel)) ggX1_explainsAll_X1_unexplained
set_option maxRecDepth 20000 in
theorem ggX1_explainsAll_X1_isNot : GoodIn wsX1_explainsAll wsX1_isNot := goodIn_r _ [24, 1, 25, 26, 27, 28, 29, 30, 31, 32, 33, 34] (by decide +kernel) (by decide +kernel)
set_option maxRecDepth 20000 in
theorem gX1_explainsAll_X1_isNot : GoodIn wsX1_explainsAll (wsV RX1 101 RX1 yX1_isNot wsX1_isNot) := goodIn_app (goodIn_of _ (by decide +kernel)) ggX1_explainsAll_X1_isNot
theorem dX1_explainsAll_0 : decode cX1_explainsAll 0 = .ok (.aload_n 0, 1) := by decide +kernel
theorem dX1_explainsAll_1 : decode cX1_explainsAll 1 = .ok (.iconst 0, 1) := by decide +kernel
theorem dX1_explainsAll_2 : decode cX1_explainsAll 2 = .ok (.putfield 26, 3) := by decide +kernel
theorem dX1_explainsAll_5 : decode cX1_explainsAll 5 = .ok (.iload_n 1, 1) := by decide +kernel
theorem dX1_explainsAll_6 : decode cX1_explainsAll 6 = .ok (.iconst 0, 1) := by decide +kernel
theorem dX1_explainsAll_7 : decode cX1_explainsAll 7 = .ok (.aload_n 0, 1) := by decide +kernel
theorem dX1_explainsAll_8 : decode cX1_explainsAll 8 = .ok (.invokevirtual 47, 3) := by decide +kernel
theorem dX1_explainsAll_11 : decode cX1_explainsAll 11 = .ok (.invokestatic 33, 3) := by decide +kernel
theorem dX1_explainsAll_14 : decode cX1_explainsAll 14 = .ok (.ifCond .eq 19, 3) := by decide +kernel
theorem dX1_explainsAll_17 : decode cX1_explainsAll 17 = .ok (.aload_n 0, 1) := by decide +kernel
theorem dX1_explainsAll_18 : decode cX1_explainsAll 18 = .ok (.iload_n 1, 1) := by decide +kernel
theorem dX1_explainsAll_19 : decode cX1_explainsAll 19 = .ok (.invokevirtual 51, 3) := by decide +kernel
theorem dX1_explainsAll_22 : decode cX1_explainsAll 22 = .ok (.ifCond .ne 7, 3) := by decide +kernel
theorem dX1_explainsAll_25 : decode cX1_explainsAll 25 = .ok (.iconst 1, 1) := by decide +kernel
theorem dX1_explainsAll_26 : decode cX1_explainsAll 26 = .ok (.goto 12, 3) := by decide +kernel
theorem dX1_explainsAll_29 : decode cX1_explainsAll 29 = .ok (.iconst 0, 1) := by decide +kernel
theorem dX1_explainsAll_30 : decode cX1_explainsAll 30 = .ok (.goto 8, 3) := by decide +kernel
theorem dX1_explainsAll_33 : decode cX1_explainsAll 33 = .ok (.aload_n 0, 1) := by decide +kernel
theorem dX1_explainsAll_34 : decode cX1_explainsAll 34 = .ok (.iconst 1, 1) := by decide +kernel
theorem dX1_explainsAll_35 : decode cX1_explainsAll 35 = .ok (.invokevirtual 101, 3) := by decide +kernel
theorem dX1_explainsAll_38 : decode cX1_explainsAll 38 = .ok (.ireturn, 1) := by decide +kernel
set_option maxRecDepth 20000 in
theorem ggX1_explanations_X1_explaining : GoodIn wsX1_explanations wsX1_explaining := goodIn_r _ [5, 6, 7, 8, 4, 9, 10, 11, 12, 13, 14, 15, 16, 17, 18, 19, 20, 26, 27, 28, 29, 30, 31, 32, 33, 34, 35] (by decide +kernel) (by decide +kernel)
set_option maxRecDepth 20000 in
theorem gX1_explanations_X1_explaining : GoodIn wsX1_explanations (wsV RX1 119 RX1 yX1_explaining wsX1_explaining) := goodIn_app (goodIn_of _ (by decide +kernel)) ggX1_explanations_X1_explaining
set_option maxRecDepth 20000 in
theorem ggX1_explanations_X1_ok : GoodIn wsX1_explanations wsX1_ok := goodIn_r _ [24, 25, 26, 27, 28, 29, 30, 31, 32, 33, 34, 35] (by decide +kernel) (by decide +kernel)
set_option maxRecDepth 20000 in
theorem gX1_explanations_X1_ok : GoodIn wsX1_explanations (wsV RX1 88 RX1 yX1_ok wsX1_ok) := goodIn_app (goodIn_of _ (by decide +kernel)) ggX1_explanations_X1_ok
theorem dX1_explanations_0 : decode cX1_explanations 0 = .ok (.aload_n 0, 1) := by decide +kernel
theorem dX1_explanations_1 : decode cX1_explanations 1 = .ok (.aload_n 0, 1) := by decide +kernel
theorem dX1_explanations_2 : decode cX1_explanations 2 = .ok (.invokevirtual 119, 3) := by decide +kernel
theorem dX1_explanations_5 : decode cX1_explanations 5 = .ok (.invokevirtual 88, 3) := by decide +kernel
theorem dX1_explanations_8 : decode cX1_explanations 8 = .ok (.ireturn, 1) := by decide +kernel
set_option maxRecDepth 20000 in
theorem ggX1_simplest_X1_fewest : GoodIn wsX1_simplest wsX1_fewest := goodIn_r _ [5, 6, 7, 8, 4, 9, 10, 11, 12, 13, 14, 15, 16, 17, 18, 19, 20, 21, 22, 23, 24, 25, 26, 27, 33, 34, 35, 36, 37, 38, 39, 40, 41, 42] (by decide +kernel) (by decide +kernel)
set_option maxRecDepth 20000 in
theorem gX1_simplest_X1_fewest : GoodIn wsX1_simplest (wsV RX1 79 RX1 yX1_fewest wsX1_fewest) := goodIn_app (goodIn_of _ (by decide +kernel)) ggX1_simplest_X1_fewest
set_option maxRecDepth 20000 in
theorem ggX1_simplest_X1_ok : GoodIn wsX1_simplest wsX1_ok := goodIn_r _ [31, 32, 33, 34, 35, 36, 37, 38, 39, 40, 41, 42] (by decide +kernel) (by decide +kernel)
set_option maxRecDepth 20000 in
theorem gX1_simplest_X1_ok : GoodIn wsX1_simplest (wsV RX1 88 RX1 yX1_ok wsX1_ok) := goodIn_app (goodIn_of _ (by decide +kernel)) ggX1_simplest_X1_ok
theorem dX1_simplest_0 : decode cX1_simplest 0 = .ok (.aload_n 0, 1) := by decide +kernel
theorem dX1_simplest_1 : decode cX1_simplest 1 = .ok (.aload_n 0, 1) := by decide +kernel
theorem dX1_simplest_2 : decode cX1_simplest 2 = .ok (.invokevirtual 79, 3) := by decide +kernel
theorem dX1_simplest_5 : decode cX1_simplest 5 = .ok (.invokevirtual 88, 3) := by decide +kernel
theorem dX1_simplest_8 : decode cX1_simplest 8 = .ok (.ireturn, 1) := by decide +kernel
set_option maxRecDepth 20000 in
theorem ggX1_surelyToBlame_X1_inAll : GoodIn wsX1_surelyToBlame wsX1_inAll := goodIn_r _ [5, 6, 7, 8, 4, 9, 10, 11, 12, 13, 14, 15, 16, 17, 18, 19, 20, 26, 27, 28, 29, 30, 31, 32, 33, 34, 35] (by decide +kernel) (by decide +kernel)
set_option maxRecDepth 20000 in
theorem gX1_surelyToBlame_X1_inAll : GoodIn wsX1_surelyToBlame (wsV RX1 122 RX1 yX1_inAll wsX1_inAll) := goodIn_app (goodIn_of _ (by decide +kernel)) ggX1_surelyToBlame_X1_inAll
set_option maxRecDepth 20000 in
theorem ggX1_surelyToBlame_X1_ok : GoodIn wsX1_surelyToBlame wsX1_ok := goodIn_r _ [24, 25, 26, 27, 28, 29, 30, 31, 32, 33, 34, 35] (by decide +kernel) (by decide +kernel)
set_option maxRecDepth 20000 in
theorem gX1_surelyToBlame_X1_ok : GoodIn wsX1_surelyToBlame (wsV RX1 88 RX1 yX1_ok wsX1_ok) := goodIn_app (goodIn_of _ (by decide +kernel)) ggX1_surelyToBlame_X1_ok
theorem dX1_surelyToBlame_0 : decode cX1_surelyToBlame 0 = .ok (.aload_n 0, 1) := by decide +kernel
theorem dX1_surelyToBlame_1 : decode cX1_surelyToBlame 1 = .ok (.aload_n 0, 1) := by decide +kernel
theorem dX1_surelyToBlame_2 : decode cX1_surelyToBlame 2 = .ok (.invokevirtual 122, 3) := by decide +kernel
theorem dX1_surelyToBlame_5 : decode cX1_surelyToBlame 5 = .ok (.invokevirtual 88, 3) := by decide +kernel
theorem dX1_surelyToBlame_8 : decode cX1_surelyToBlame 8 = .ok (.ireturn, 1) := by decide +kernel
set_option maxRecDepth 20000 in
theorem ggX1_nightsToDoubt_X1_all : GoodIn wsX1_nightsToDoubt wsX1_all := goodIn_r _ [11, 12, 22, 23, 24, 25, 26, 27, 28, 29, 30, 31] (by decide +kernel) (by decide +kernel)
set_option maxRecDepth 20000 in
theorem gX1_nightsToDoubt_X1_all : GoodIn wsX1_nightsToDoubt (wsV RX1 47 RX1 yX1_all wsX1_all) := goodIn_app (goodIn_of _ (by decide +kernel)) ggX1_nightsToDoubt_X1_all
set_option maxRecDepth 20000 in
theorem ggX1_nightsToDoubt_X1_unexplained : GoodIn wsX1_nightsToDoubt wsX1_unexplained := goodIn_r _ [16, 2, 17, 18, 19, 20, 10, 21, 22, 23, 24, 25, 26, 27, 28, 29, 30, 31] (by decide +kernel) (by decide +kernel)
set_option maxRecDepth 20000 in
theorem gX1_nightsToDoubt_X1_unexplained : GoodIn wsX1_nightsToDoubt (wsV RX1 51 RX1 yX1_unexplained wsX1_unexplained) := goodIn_app (goodIn_of _ (by decide +kernel)) ggX1_nightsToDoubt_X1_unexplained
theorem dX1_nightsToDoubt_0 : decode cX1_nightsToDoubt 0 = .ok (.aload_n 0, 1) := by decide +kernel
theorem dX1_nightsToDoubt_1 : decode cX1_nightsToDoubt 1 = .ok (.iconst 0, 1) := by decide +kernel
theorem dX1_nightsToDoubt_2 : decode cX1_nightsToDoubt 2 = .ok (.putfield 26, 3) := by decide +kernel
theorem dX1_nightsToDoubt_5 : decode cX1_nightsToDoubt 5 = .ok (.aload_n 0, 1) := by decide +kernel
theorem dX1_nightsToDoubt_6 : decode cX1_nightsToDoubt 6 = .ok (.getfield 37, 3) := by decide +kernel
theorem dX1_nightsToDoubt_9 : decode cX1_nightsToDoubt 9 = .ok (.istore_n 1, 1) := by decide +kernel
theorem dX1_nightsToDoubt_10 : decode cX1_nightsToDoubt 10 = .ok (.iconst 0, 1) := by decide +kernel
theorem dX1_nightsToDoubt_11 : decode cX1_nightsToDoubt 11 = .ok (.istore_n 2, 1) := by decide +kernel
theorem dX1_nightsToDoubt_12 : decode cX1_nightsToDoubt 12 = .ok (.iload_n 2, 1) := by decide +kernel
theorem dX1_nightsToDoubt_13 : decode cX1_nightsToDoubt 13 = .ok (.aload_n 0, 1) := by decide +kernel
theorem dX1_nightsToDoubt_14 : decode cX1_nightsToDoubt 14 = .ok (.invokevirtual 47, 3) := by decide +kernel
theorem dX1_nightsToDoubt_17 : decode cX1_nightsToDoubt 17 = .ok (.if_icmp .gt 19, 3) := by decide +kernel
theorem dX1_nightsToDoubt_20 : decode cX1_nightsToDoubt 20 = .ok (.iload_n 1, 1) := by decide +kernel
theorem dX1_nightsToDoubt_21 : decode cX1_nightsToDoubt 21 = .ok (.aload_n 0, 1) := by decide +kernel
theorem dX1_nightsToDoubt_22 : decode cX1_nightsToDoubt 22 = .ok (.iload_n 2, 1) := by decide +kernel
theorem dX1_nightsToDoubt_23 : decode cX1_nightsToDoubt 23 = .ok (.invokevirtual 51, 3) := by decide +kernel
theorem dX1_nightsToDoubt_26 : decode cX1_nightsToDoubt 26 = .ok (.invokestatic 125, 3) := by decide +kernel
theorem dX1_nightsToDoubt_29 : decode cX1_nightsToDoubt 29 = .ok (.istore_n 1, 1) := by decide +kernel
theorem dX1_nightsToDoubt_30 : decode cX1_nightsToDoubt 30 = .ok (.iinc 2 1, 3) := by decide +kernel
theorem dX1_nightsToDoubt_33 : decode cX1_nightsToDoubt 33 = .ok (.goto (-21), 3) := by decide +kernel
theorem dX1_nightsToDoubt_36 : decode cX1_nightsToDoubt 36 = .ok (.iload_n 1, 1) := by decide +kernel
theorem dX1_nightsToDoubt_37 : decode cX1_nightsToDoubt 37 = .ok (.ireturn, 1) := by decide +kernel
set_option maxRecDepth 20000 in
theorem ggX1_leftIfSmudged_X1_all : GoodIn wsX1_leftIfSmudged wsX1_all := goodIn_r _ [6, 7, 29, 30, 31, 32, 33, 34, 35, 36, 37, 38] (by decide +kernel) (by decide +kernel)
set_option maxRecDepth 20000 in
theorem gX1_leftIfSmudged_X1_all : GoodIn wsX1_leftIfSmudged (wsV RX1 47 RX1 yX1_all wsX1_all) := goodIn_app (goodIn_of _ (by decide +kernel)) ggX1_leftIfSmudged_X1_all
set_option maxRecDepth 20000 in
theorem ggX1_leftIfSmudged_X1_isIn : GoodIn wsX1_leftIfSmudged wsX1_isIn := goodIn_r _ [10] (by decide +kernel) (by decide +kernel)
set_option maxRecDepth 20000 in
theorem gX1_leftIfSmudged_X1_isIn : GoodIn wsX1_leftIfSmudged (va_wsS RX1 33 yX1_isIn wsX1_isIn) := goodIn_app (goodIn_of _ (by decide +kernel)) ggX1_leftIfSmudged_X1_isIn
set_option maxRecDepth 20000 in
theorem ggX1_leftIfSmudged_X1_meeting : GoodIn wsX1_leftIfSmudged wsX1_meeting := goodIn_r _ [14, 2, 3, 4, 5, 6, 7, 15, 16, 17, 18, 19, 20, 21, 22, 23, 24, 29, 30, 31, 32, 33, 34, 35, 36, 37, 38] (by decide +kernel) (by decide +kernel)
set_option maxRecDepth 20000 in
theorem gX1_leftIfSmudged_X1_meeting : GoodIn wsX1_leftIfSmudged (wsV RX1 131 RX1 yX1_meeting wsX1_meeting) := goodIn_app (goodIn_of _ (by decide +kernel)) ggX1_leftIfSmudged_X1_meeting
set_option maxRecDepth 20000 in
theorem ggX1_leftIfSmudged_X1_no : GoodIn wsX1_leftIfSmudged wsX1_no := goodIn_r _ [28, 1, 29, 30, 31, 32, 33, 34, 35, 36, 37, 38] (by decide +kernel) (by decide +kernel)
set_option maxRecDepth 20000 in
theorem gX1_leftIfSmudged_X1_no : GoodIn wsX1_leftIfSmudged (wsV RX1 64 RX1 yX1_no wsX1_no) := goodIn_app (goodIn_of _ (by decide +kernel)) ggX1_leftIfSmudged_X1_no
theorem dX1_leftIfSmudged_0 : decode cX1_leftIfSmudged 0 = .ok (.aload_n 0, 1) := by decide +kernel
theorem dX1_leftIfSmudged_1 : decode cX1_leftIfSmudged 1 = .ok (.iconst 0, 1) := by decide +kernel
theorem dX1_leftIfSmudged_2 : decode cX1_leftIfSmudged 2 = .ok (.putfield 26, 3) := by decide +kernel
theorem dX1_leftIfSmudged_5 : decode cX1_leftIfSmudged 5 = .ok (.iload_n 1, 1) := by decide +kernel
theorem dX1_leftIfSmudged_6 : decode cX1_leftIfSmudged 6 = .ok (.iconst 1, 1) := by decide +kernel
theorem dX1_leftIfSmudged_7 : decode cX1_leftIfSmudged 7 = .ok (.aload_n 0, 1) := by decide +kernel
theorem dX1_leftIfSmudged_8 : decode cX1_leftIfSmudged 8 = .ok (.invokevirtual 47, 3) := by decide +kernel
theorem dX1_leftIfSmudged_11 : decode cX1_leftIfSmudged 11 = .ok (.invokestatic 33, 3) := by decide +kernel
theorem dX1_leftIfSmudged_14 : decode cX1_leftIfSmudged 14 = .ok (.ifCond .eq 11, 3) := by decide +kernel
theorem dX1_leftIfSmudged_17 : decode cX1_leftIfSmudged 17 = .ok (.aload_n 0, 1) := by decide +kernel
theorem dX1_leftIfSmudged_18 : decode cX1_leftIfSmudged 18 = .ok (.iload_n 1, 1) := by decide +kernel
theorem dX1_leftIfSmudged_19 : decode cX1_leftIfSmudged 19 = .ok (.invokevirtual 131, 3) := by decide +kernel
theorem dX1_leftIfSmudged_22 : decode cX1_leftIfSmudged 22 = .ok (.goto 8, 3) := by decide +kernel
theorem dX1_leftIfSmudged_25 : decode cX1_leftIfSmudged 25 = .ok (.aload_n 0, 1) := by decide +kernel
theorem dX1_leftIfSmudged_26 : decode cX1_leftIfSmudged 26 = .ok (.iconst 1, 1) := by decide +kernel
theorem dX1_leftIfSmudged_27 : decode cX1_leftIfSmudged 27 = .ok (.invokevirtual 64, 3) := by decide +kernel
theorem dX1_leftIfSmudged_30 : decode cX1_leftIfSmudged 30 = .ok (.ireturn, 1) := by decide +kernel
set_option maxRecDepth 20000 in
theorem ggX1_bestNight_X1_explaining : GoodIn wsX1_bestNight wsX1_explaining := goodIn_r _ [10, 11, 12, 13, 9, 14, 15, 16, 17, 18, 19, 20, 21, 22, 23, 24, 25, 30, 31, 32, 33, 34, 35, 36, 37, 38, 39] (by decide +kernel) (by decide +kernel)
set_option maxRecDepth 20000 in
theorem gX1_bestNight_X1_explaining : GoodIn wsX1_bestNight (wsV RX1 119 RX1 yX1_explaining wsX1_explaining) := goodIn_app (goodIn_of _ (by decide +kernel)) ggX1_bestNight_X1_explaining
set_option maxRecDepth 20000 in
theorem ggX1_bestNight_X1_all : GoodIn wsX1_bestNight wsX1_all := goodIn_r _ [14, 15, 30, 31, 32, 33, 34, 35, 36, 37, 38, 39] (by decide +kernel) (by decide +kernel)
set_option maxRecDepth 20000 in
theorem gX1_bestNight_X1_all : GoodIn wsX1_bestNight (wsV RX1 47 RX1 yX1_all wsX1_all) := goodIn_app (goodIn_of _ (by decide +kernel)) ggX1_bestNight_X1_all
set_option maxRecDepth 20000 in
theorem ggX1_bestNight_X1_meeting : GoodIn wsX1_bestNight wsX1_meeting := goodIn_r _ [29, 11, 12, 13, 9, 14, 15, 16, 17, 18, 19, 20, 21, 22, 23, 24, 25, 30, 31, 32, 33, 34, 35, 36, 37, 38, 39] (by decide +kernel) (by decide +kernel)
set_option maxRecDepth 20000 in
theorem gX1_bestNight_X1_meeting : GoodIn wsX1_bestNight (wsV RX1 131 RX1 yX1_meeting wsX1_meeting) := goodIn_app (goodIn_of _ (by decide +kernel)) ggX1_bestNight_X1_meeting
theorem dX1_bestNight_0 : decode cX1_bestNight 0 = .ok (.aload_n 0, 1) := by decide +kernel
theorem dX1_bestNight_1 : decode cX1_bestNight 1 = .ok (.iconst 0, 1) := by decide +kernel
theorem dX1_bestNight_2 : decode cX1_bestNight 2 = .ok (.putfield 26, 3) := by decide +kernel
theorem dX1_bestNight_5 : decode cX1_bestNight 5 = .ok (.aload_n 0, 1) := by decide +kernel
theorem dX1_bestNight_6 : decode cX1_bestNight 6 = .ok (.invokevirtual 119, 3) := by decide +kernel
theorem dX1_bestNight_9 : decode cX1_bestNight 9 = .ok (.istore_n 1, 1) := by decide +kernel
theorem dX1_bestNight_10 : decode cX1_bestNight 10 = .ok (.iconst (-1), 1) := by decide +kernel
theorem dX1_bestNight_11 : decode cX1_bestNight 11 = .ok (.istore_n 2, 1) := by decide +kernel
theorem dX1_bestNight_12 : decode cX1_bestNight 12 = .ok (.iconst 0, 1) := by decide +kernel
theorem dX1_bestNight_13 : decode cX1_bestNight 13 = .ok (.istore_n 3, 1) := by decide +kernel
theorem dX1_bestNight_14 : decode cX1_bestNight 14 = .ok (.iconst 1, 1) := by decide +kernel
theorem dX1_bestNight_15 : decode cX1_bestNight 15 = .ok (.istore 4, 2) := by decide +kernel
theorem dX1_bestNight_17 : decode cX1_bestNight 17 = .ok (.iload 4, 2) := by decide +kernel
theorem dX1_bestNight_19 : decode cX1_bestNight 19 = .ok (.aload_n 0, 1) := by decide +kernel
theorem dX1_bestNight_20 : decode cX1_bestNight 20 = .ok (.invokevirtual 47, 3) := by decide +kernel
theorem dX1_bestNight_23 : decode cX1_bestNight 23 = .ok (.if_icmp .gt 48, 3) := by decide +kernel
theorem dX1_bestNight_26 : decode cX1_bestNight 26 = .ok (.aload_n 0, 1) := by decide +kernel
theorem dX1_bestNight_27 : decode cX1_bestNight 27 = .ok (.iload 4, 2) := by decide +kernel
theorem dX1_bestNight_29 : decode cX1_bestNight 29 = .ok (.invokevirtual 131, 3) := by decide +kernel
theorem dX1_bestNight_32 : decode cX1_bestNight 32 = .ok (.istore 5, 2) := by decide +kernel
theorem dX1_bestNight_34 : decode cX1_bestNight 34 = .ok (.iload 5, 2) := by decide +kernel
theorem dX1_bestNight_36 : decode cX1_bestNight 36 = .ok (.iload_n 1, 1) := by decide +kernel
theorem dX1_bestNight_37 : decode cX1_bestNight 37 = .ok (.iload 5, 2) := by decide +kernel
theorem dX1_bestNight_39 : decode cX1_bestNight 39 = .ok (.isub, 1) := by decide +kernel
theorem dX1_bestNight_40 : decode cX1_bestNight 40 = .ok (.invokestatic 134, 3) := by decide +kernel
theorem dX1_bestNight_43 : decode cX1_bestNight 43 = .ok (.istore 6, 2) := by decide +kernel
theorem dX1_bestNight_45 : decode cX1_bestNight 45 = .ok (.iload_n 2, 1) := by decide +kernel
theorem dX1_bestNight_46 : decode cX1_bestNight 46 = .ok (.iconst (-1), 1) := by decide +kernel
theorem dX1_bestNight_47 : decode cX1_bestNight 47 = .ok (.if_icmp .eq 12, 3) := by decide +kernel
theorem dX1_bestNight_50 : decode cX1_bestNight 50 = .ok (.iload 6, 2) := by decide +kernel
theorem dX1_bestNight_52 : decode cX1_bestNight 52 = .ok (.iload_n 3, 1) := by decide +kernel
theorem dX1_bestNight_53 : decode cX1_bestNight 53 = .ok (.if_icmp .lt 6, 3) := by decide +kernel
theorem dX1_bestNight_56 : decode cX1_bestNight 56 = .ok (.goto 9, 3) := by decide +kernel
theorem dX1_bestNight_59 : decode cX1_bestNight 59 = .ok (.iload 4, 2) := by decide +kernel
theorem dX1_bestNight_61 : decode cX1_bestNight 61 = .ok (.istore_n 2, 1) := by decide +kernel
theorem dX1_bestNight_62 : decode cX1_bestNight 62 = .ok (.iload 6, 2) := by decide +kernel
theorem dX1_bestNight_64 : decode cX1_bestNight 64 = .ok (.istore_n 3, 1) := by decide +kernel
theorem dX1_bestNight_65 : decode cX1_bestNight 65 = .ok (.iinc 4 1, 3) := by decide +kernel
theorem dX1_bestNight_68 : decode cX1_bestNight 68 = .ok (.goto (-51), 3) := by decide +kernel
theorem dX1_bestNight_71 : decode cX1_bestNight 71 = .ok (.iload_n 2, 1) := by decide +kernel
theorem dX1_bestNight_72 : decode cX1_bestNight 72 = .ok (.ireturn, 1) := by decide +kernel
set_option maxRecDepth 20000 in
theorem ggX1_wouldChange_X1_all : GoodIn wsX1_wouldChange wsX1_all := goodIn_r _ [10, 11, 43, 44, 45, 46, 47, 48, 49, 50, 51, 52] (by decide +kernel) (by decide +kernel)
set_option maxRecDepth 20000 in
theorem gX1_wouldChange_X1_all : GoodIn wsX1_wouldChange (wsV RX1 47 RX1 yX1_all wsX1_all) := goodIn_app (goodIn_of _ (by decide +kernel)) ggX1_wouldChange_X1_all
set_option maxRecDepth 20000 in
theorem ggX1_wouldChange_X1_isIn : GoodIn wsX1_wouldChange wsX1_isIn := goodIn_r _ [14] (by decide +kernel) (by decide +kernel)
set_option maxRecDepth 20000 in
theorem gX1_wouldChange_X1_isIn : GoodIn wsX1_wouldChange (va_wsS RX1 33 yX1_isIn wsX1_isIn) := goodIn_app (goodIn_of _ (by decide +kernel)) ggX1_wouldChange_X1_isIn
set_option maxRecDepth 20000 in
theorem ggX1_wouldChange_X1_no : GoodIn wsX1_wouldChange wsX1_no := goodIn_r _ [18, 1, 43, 44, 45, 46, 47, 48, 49, 50, 51, 52] (by decide +kernel) (by decide +kernel)
set_option maxRecDepth 20000 in
theorem gX1_wouldChange_X1_no : GoodIn wsX1_wouldChange (wsV RX1 64 RX1 yX1_no wsX1_no) := goodIn_app (goodIn_of _ (by decide +kernel)) ggX1_wouldChange_X1_no
set_option maxRecDepth 20000 in
theorem ggX1_wouldChange_X1_put : GoodIn wsX1_wouldChange wsX1_put := goodIn_r _ [22, 23, 2, 24, 43, 44, 45, 46, 47, 48, 49, 50, 51, 52] (by decide +kernel) (by decide +kernel)
set_option maxRecDepth 20000 in
theorem gX1_wouldChange_X1_put : GoodIn wsX1_wouldChange (wsV RX1 75 RX1 yX1_put wsX1_put) := goodIn_app (goodIn_of _ (by decide +kernel)) ggX1_wouldChange_X1_put
set_option maxRecDepth 20000 in
theorem ggX1_wouldChange_X1_fewest : GoodIn wsX1_wouldChange wsX1_fewest := goodIn_r _ [28, 6, 7, 8, 9, 10, 11, 29, 30, 31, 32, 2, 23, 24, 33, 34, 35, 36, 37, 38, 39, 40, 41, 42, 43, 44, 45, 46, 47, 48, 49, 50, 51, 52] (by decide +kernel) (by decide +kernel)
set_option maxRecDepth 20000 in
theorem gX1_wouldChange_X1_fewest : GoodIn wsX1_wouldChange (wsV RX1 79 RX1 yX1_fewest wsX1_fewest) := goodIn_app (goodIn_of _ (by decide +kernel)) ggX1_wouldChange_X1_fewest
set_option maxRecDepth 20000 in
theorem ggX1_wouldChange_X1_explains : GoodIn wsX1_wouldChange wsX1_explains := goodIn_r _ [35] (by decide +kernel) (by decide +kernel)
set_option maxRecDepth 20000 in
theorem gX1_wouldChange_X1_explains : GoodIn wsX1_wouldChange (va_wsS RX1 43 yX1_explains wsX1_explains) := goodIn_app (goodIn_of _ (by decide +kernel)) ggX1_wouldChange_X1_explains
theorem dX1_wouldChange_0 : decode cX1_wouldChange 0 = .ok (.aload_n 0, 1) := by decide +kernel
theorem dX1_wouldChange_1 : decode cX1_wouldChange 1 = .ok (.iconst 0, 1) := by decide +kernel
theorem dX1_wouldChange_2 : decode cX1_wouldChange 2 = .ok (.putfield 26, 3) := by decide +kernel
theorem dX1_wouldChange_5 : decode cX1_wouldChange 5 = .ok (.iload_n 1, 1) := by decide +kernel
theorem dX1_wouldChange_6 : decode cX1_wouldChange 6 = .ok (.iconst 1, 1) := by decide +kernel
theorem dX1_wouldChange_7 : decode cX1_wouldChange 7 = .ok (.aload_n 0, 1) := by decide +kernel
theorem dX1_wouldChange_8 : decode cX1_wouldChange 8 = .ok (.invokevirtual 47, 3) := by decide +kernel
theorem dX1_wouldChange_11 : decode cX1_wouldChange 11 = .ok (.invokestatic 33, 3) := by decide +kernel
theorem dX1_wouldChange_14 : decode cX1_wouldChange 14 = .ok (.ifCond .ne 9, 3) := by decide +kernel
theorem dX1_wouldChange_17 : decode cX1_wouldChange 17 = .ok (.aload_n 0, 1) := by decide +kernel
theorem dX1_wouldChange_18 : decode cX1_wouldChange 18 = .ok (.iconst 1, 1) := by decide +kernel
theorem dX1_wouldChange_19 : decode cX1_wouldChange 19 = .ok (.invokevirtual 64, 3) := by decide +kernel
theorem dX1_wouldChange_22 : decode cX1_wouldChange 22 = .ok (.ireturn, 1) := by decide +kernel
theorem dX1_wouldChange_23 : decode cX1_wouldChange 23 = .ok (.aload_n 0, 1) := by decide +kernel
theorem dX1_wouldChange_24 : decode cX1_wouldChange 24 = .ok (.getfield 37, 3) := by decide +kernel
theorem dX1_wouldChange_27 : decode cX1_wouldChange 27 = .ok (.bipush 40, 2) := by decide +kernel
theorem dX1_wouldChange_29 : decode cX1_wouldChange 29 = .ok (.if_icmp .ne 9, 3) := by decide +kernel
theorem dX1_wouldChange_32 : decode cX1_wouldChange 32 = .ok (.aload_n 0, 1) := by decide +kernel
theorem dX1_wouldChange_33 : decode cX1_wouldChange 33 = .ok (.iconst 2, 1) := by decide +kernel
theorem dX1_wouldChange_34 : decode cX1_wouldChange 34 = .ok (.invokevirtual 64, 3) := by decide +kernel
theorem dX1_wouldChange_37 : decode cX1_wouldChange 37 = .ok (.ireturn, 1) := by decide +kernel
theorem dX1_wouldChange_38 : decode cX1_wouldChange 38 = .ok (.aload_n 0, 1) := by decide +kernel
theorem dX1_wouldChange_39 : decode cX1_wouldChange 39 = .ok (.iload_n 1, 1) := by decide +kernel
theorem dX1_wouldChange_40 : decode cX1_wouldChange 40 = .ok (.iload_n 2, 1) := by decide +kernel
theorem dX1_wouldChange_41 : decode cX1_wouldChange 41 = .ok (.invokevirtual 75, 3) := by decide +kernel
theorem dX1_wouldChange_44 : decode cX1_wouldChange 44 = .ok (.aload_n 0, 1) := by decide +kernel
theorem dX1_wouldChange_45 : decode cX1_wouldChange 45 = .ok (.invokevirtual 79, 3) := by decide +kernel
theorem dX1_wouldChange_48 : decode cX1_wouldChange 48 = .ok (.iconst (-1), 1) := by decide +kernel
theorem dX1_wouldChange_49 : decode cX1_wouldChange 49 = .ok (.if_icmp .eq 7, 3) := by decide +kernel
theorem dX1_wouldChange_52 : decode cX1_wouldChange 52 = .ok (.iconst 1, 1) := by decide +kernel
theorem dX1_wouldChange_53 : decode cX1_wouldChange 53 = .ok (.goto 4, 3) := by decide +kernel
theorem dX1_wouldChange_56 : decode cX1_wouldChange 56 = .ok (.iconst 0, 1) := by decide +kernel
theorem dX1_wouldChange_57 : decode cX1_wouldChange 57 = .ok (.istore_n 3, 1) := by decide +kernel
theorem dX1_wouldChange_58 : decode cX1_wouldChange 58 = .ok (.aload_n 0, 1) := by decide +kernel
theorem dX1_wouldChange_59 : decode cX1_wouldChange 59 = .ok (.dup, 1) := by decide +kernel
theorem dX1_wouldChange_60 : decode cX1_wouldChange 60 = .ok (.getfield 37, 3) := by decide +kernel
theorem dX1_wouldChange_63 : decode cX1_wouldChange 63 = .ok (.iconst 1, 1) := by decide +kernel
theorem dX1_wouldChange_64 : decode cX1_wouldChange 64 = .ok (.isub, 1) := by decide +kernel
theorem dX1_wouldChange_65 : decode cX1_wouldChange 65 = .ok (.putfield 37, 3) := by decide +kernel
theorem dX1_wouldChange_68 : decode cX1_wouldChange 68 = .ok (.iconst 0, 1) := by decide +kernel
theorem dX1_wouldChange_69 : decode cX1_wouldChange 69 = .ok (.istore 4, 2) := by decide +kernel
theorem dX1_wouldChange_71 : decode cX1_wouldChange 71 = .ok (.iconst 0, 1) := by decide +kernel
theorem dX1_wouldChange_72 : decode cX1_wouldChange 72 = .ok (.istore 5, 2) := by decide +kernel
theorem dX1_wouldChange_74 : decode cX1_wouldChange 74 = .ok (.iload 5, 2) := by decide +kernel
theorem dX1_wouldChange_76 : decode cX1_wouldChange 76 = .ok (.aload_n 0, 1) := by decide +kernel
theorem dX1_wouldChange_77 : decode cX1_wouldChange 77 = .ok (.getfield 40, 3) := by decide +kernel
theorem dX1_wouldChange_80 : decode cX1_wouldChange 80 = .ok (.if_icmp .ge 48, 3) := by decide +kernel
theorem dX1_wouldChange_83 : decode cX1_wouldChange 83 = .ok (.iload 4, 2) := by decide +kernel
theorem dX1_wouldChange_85 : decode cX1_wouldChange 85 = .ok (.iload_n 3, 1) := by decide +kernel
theorem dX1_wouldChange_86 : decode cX1_wouldChange 86 = .ok (.ifCond .eq 32, 3) := by decide +kernel
theorem dX1_wouldChange_89 : decode cX1_wouldChange 89 = .ok (.aload_n 0, 1) := by decide +kernel
theorem dX1_wouldChange_90 : decode cX1_wouldChange 90 = .ok (.getfield 20, 3) := by decide +kernel
theorem dX1_wouldChange_93 : decode cX1_wouldChange 93 = .ok (.iload 5, 2) := by decide +kernel
theorem dX1_wouldChange_95 : decode cX1_wouldChange 95 = .ok (.iaload, 1) := by decide +kernel
theorem dX1_wouldChange_96 : decode cX1_wouldChange 96 = .ok (.ifCond .ne 22, 3) := by decide +kernel
theorem dX1_wouldChange_99 : decode cX1_wouldChange 99 = .ok (.aload_n 0, 1) := by decide +kernel
theorem dX1_wouldChange_100 : decode cX1_wouldChange 100 = .ok (.getfield 23, 3) := by decide +kernel
theorem dX1_wouldChange_103 : decode cX1_wouldChange 103 = .ok (.iload 5, 2) := by decide +kernel
theorem dX1_wouldChange_105 : decode cX1_wouldChange 105 = .ok (.iaload, 1) := by decide +kernel
theorem dX1_wouldChange_106 : decode cX1_wouldChange 106 = .ok (.iload_n 1, 1) := by decide +kernel
theorem dX1_wouldChange_107 : decode cX1_wouldChange 107 = .ok (.iload_n 2, 1) := by decide +kernel
theorem dX1_wouldChange_108 : decode cX1_wouldChange 108 = .ok (.invokestatic 43, 3) := by decide +kernel
theorem dX1_wouldChange_111 : decode cX1_wouldChange 111 = .ok (.ifCond .ne 7, 3) := by decide +kernel
theorem dX1_wouldChange_114 : decode cX1_wouldChange 114 = .ok (.iconst 1, 1) := by decide +kernel
theorem dX1_wouldChange_115 : decode cX1_wouldChange 115 = .ok (.goto 4, 3) := by decide +kernel
theorem dX1_wouldChange_118 : decode cX1_wouldChange 118 = .ok (.iconst 0, 1) := by decide +kernel
theorem dX1_wouldChange_119 : decode cX1_wouldChange 119 = .ok (.iadd, 1) := by decide +kernel
theorem dX1_wouldChange_120 : decode cX1_wouldChange 120 = .ok (.istore 4, 2) := by decide +kernel
theorem dX1_wouldChange_122 : decode cX1_wouldChange 122 = .ok (.iinc 5 1, 3) := by decide +kernel
theorem dX1_wouldChange_125 : decode cX1_wouldChange 125 = .ok (.goto (-51), 3) := by decide +kernel
theorem dX1_wouldChange_128 : decode cX1_wouldChange 128 = .ok (.iload 4, 2) := by decide +kernel
theorem dX1_wouldChange_130 : decode cX1_wouldChange 130 = .ok (.ireturn, 1) := by decide +kernel
set_option maxRecDepth 20000 in
theorem ggX1_meanBlame_J6_bitCount_0f7a4 : GoodIn wsX1_meanBlame wsJ6_bitCount_0f7a4 := goodIn_r _ [7, 8, 9, 10] (by decide +kernel) (by decide +kernel)
set_option maxRecDepth 20000 in
theorem gX1_meanBlame_J6_bitCount_0f7a4 : GoodIn wsX1_meanBlame (va_wsS RX1 55 yJ6_bitCount_0f7a4 wsJ6_bitCount_0f7a4) := goodIn_app (goodIn_of _ (by decide +kernel)) ggX1_meanBlame_J6_bitCount_0f7a4
theorem dX1_meanBlame_0 : decode cX1_meanBlame 0 = .ok (.aload_n 0, 1) := by decide +kernel
theorem dX1_meanBlame_1 : decode cX1_meanBlame 1 = .ok (.iconst 0, 1) := by decide +kernel
theorem dX1_meanBlame_2 : decode cX1_meanBlame 2 = .ok (.putfield 26, 3) := by decide +kernel
theorem dX1_meanBlame_5 : decode cX1_meanBlame 5 = .ok (.iconst 0, 1) := by decide +kernel
theorem dX1_meanBlame_6 : decode cX1_meanBlame 6 = .ok (.istore_n 1, 1) := by decide +kernel
theorem dX1_meanBlame_7 : decode cX1_meanBlame 7 = .ok (.iconst 0, 1) := by decide +kernel
theorem dX1_meanBlame_8 : decode cX1_meanBlame 8 = .ok (.istore_n 2, 1) := by decide +kernel
theorem dX1_meanBlame_9 : decode cX1_meanBlame 9 = .ok (.iload_n 2, 1) := by decide +kernel
theorem dX1_meanBlame_10 : decode cX1_meanBlame 10 = .ok (.aload_n 0, 1) := by decide +kernel
theorem dX1_meanBlame_11 : decode cX1_meanBlame 11 = .ok (.getfield 40, 3) := by decide +kernel
theorem dX1_meanBlame_14 : decode cX1_meanBlame 14 = .ok (.if_icmp .ge 21, 3) := by decide +kernel
theorem dX1_meanBlame_17 : decode cX1_meanBlame 17 = .ok (.iload_n 1, 1) := by decide +kernel
theorem dX1_meanBlame_18 : decode cX1_meanBlame 18 = .ok (.aload_n 0, 1) := by decide +kernel
theorem dX1_meanBlame_19 : decode cX1_meanBlame 19 = .ok (.getfield 23, 3) := by decide +kernel
theorem dX1_meanBlame_22 : decode cX1_meanBlame 22 = .ok (.iload_n 2, 1) := by decide +kernel
theorem dX1_meanBlame_23 : decode cX1_meanBlame 23 = .ok (.iaload, 1) := by decide +kernel
theorem dX1_meanBlame_24 : decode cX1_meanBlame 24 = .ok (.invokestatic 55, 3) := by decide +kernel
theorem dX1_meanBlame_27 : decode cX1_meanBlame 27 = .ok (.iadd, 1) := by decide +kernel
theorem dX1_meanBlame_28 : decode cX1_meanBlame 28 = .ok (.istore_n 1, 1) := by decide +kernel
theorem dX1_meanBlame_29 : decode cX1_meanBlame 29 = .ok (.iinc 2 1, 3) := by decide +kernel
theorem dX1_meanBlame_32 : decode cX1_meanBlame 32 = .ok (.goto (-23), 3) := by decide +kernel
theorem dX1_meanBlame_35 : decode cX1_meanBlame 35 = .ok (.aload_n 0, 1) := by decide +kernel
theorem dX1_meanBlame_36 : decode cX1_meanBlame 36 = .ok (.getfield 40, 3) := by decide +kernel
theorem dX1_meanBlame_39 : decode cX1_meanBlame 39 = .ok (.ifCond .ne 7, 3) := by decide +kernel
theorem dX1_meanBlame_42 : decode cX1_meanBlame 42 = .ok (.dconst 0, 1) := by decide +kernel
theorem dX1_meanBlame_43 : decode cX1_meanBlame 43 = .ok (.goto 11, 3) := by decide +kernel
theorem dX1_meanBlame_46 : decode cX1_meanBlame 46 = .ok (.iload_n 1, 1) := by decide +kernel
theorem dX1_meanBlame_47 : decode cX1_meanBlame 47 = .ok (.i2d, 1) := by decide +kernel
theorem dX1_meanBlame_48 : decode cX1_meanBlame 48 = .ok (.aload_n 0, 1) := by decide +kernel
theorem dX1_meanBlame_49 : decode cX1_meanBlame 49 = .ok (.getfield 40, 3) := by decide +kernel
theorem dX1_meanBlame_52 : decode cX1_meanBlame 52 = .ok (.i2d, 1) := by decide +kernel
theorem dX1_meanBlame_53 : decode cX1_meanBlame 53 = .ok (.ddiv, 1) := by decide +kernel
theorem dX1_meanBlame_54 : decode cX1_meanBlame 54 = .ok (.dreturn, 1) := by decide +kernel
theorem dX1_one_0 : decode cX1_one 0 = .ok (.iload_n 0, 1) := by decide +kernel
theorem dX1_one_1 : decode cX1_one 1 = .ok (.ifCond .eq 7, 3) := by decide +kernel
theorem dX1_one_4 : decode cX1_one 4 = .ok (.iconst 1, 1) := by decide +kernel
theorem dX1_one_5 : decode cX1_one 5 = .ok (.goto 4, 3) := by decide +kernel
theorem dX1_one_8 : decode cX1_one 8 = .ok (.iconst 0, 1) := by decide +kernel
theorem dX1_one_9 : decode cX1_one 9 = .ok (.ireturn, 1) := by decide +kernel
set_option maxRecDepth 20000 in
theorem ggX1_digest_X1_smudgesNow : GoodIn wsX1_digest wsX1_smudgesNow := goodIn_r _ [17, 4, 10, 78, 79, 80, 81, 82, 83, 84, 85, 86, 87] (by decide +kernel) (by decide +kernel)
set_option maxRecDepth 20000 in
theorem gX1_digest_X1_smudgesNow : GoodIn wsX1_digest (wsV RX1 110 RX1 yX1_smudgesNow wsX1_smudgesNow) := goodIn_app (goodIn_of _ (by decide +kernel)) ggX1_digest_X1_smudgesNow
set_option maxRecDepth 20000 in
theorem ggX1_digest_X1_fewest : GoodIn wsX1_digest wsX1_fewest := goodIn_r _ [21, 22, 23, 24, 16, 25, 3, 26, 27, 28, 29, 4, 9, 10, 30, 31, 32, 33, 34, 35, 36, 37, 38, 39, 78, 79, 80, 81, 82, 83, 84, 85, 86, 87] (by decide +kernel) (by decide +kernel)
set_option maxRecDepth 20000 in
theorem gX1_digest_X1_fewest : GoodIn wsX1_digest (wsV RX1 79 RX1 yX1_fewest wsX1_fewest) := goodIn_app (goodIn_of _ (by decide +kernel)) ggX1_digest_X1_fewest
set_option maxRecDepth 20000 in
theorem ggX1_digest_X1_one : GoodIn wsX1_digest wsX1_one := goodIn_r _ [42] (by decide +kernel) (by decide +kernel)
set_option maxRecDepth 20000 in
theorem gX1_digest_X1_one : GoodIn wsX1_digest (va_wsS RX1 137 yX1_one wsX1_one) := goodIn_app (goodIn_of _ (by decide +kernel)) ggX1_digest_X1_one
set_option maxRecDepth 20000 in
theorem ggX1_digest_X1_voted : GoodIn wsX1_digest wsX1_voted := goodIn_r _ [46, 3, 5, 47, 48, 49, 16, 50, 11, 51, 52, 53, 78, 79, 80, 81, 82, 83, 84, 85, 86, 87] (by decide +kernel) (by decide +kernel)
set_option maxRecDepth 20000 in
theorem gX1_digest_X1_voted : GoodIn wsX1_digest (wsV RX1 116 RX1 yX1_voted wsX1_voted) := goodIn_app (goodIn_of _ (by decide +kernel)) ggX1_digest_X1_voted
set_option maxRecDepth 20000 in
theorem ggX1_digest_X1_explaining : GoodIn wsX1_digest wsX1_explaining := goodIn_r _ [57, 22, 23, 24, 16, 25, 3, 26, 27, 28, 29, 4, 9, 10, 30, 31, 32, 78, 79, 80, 81, 82, 83, 84, 85, 86, 87] (by decide +kernel) (by decide +kernel)
set_option maxRecDepth 20000 in
theorem gX1_digest_X1_explaining : GoodIn wsX1_digest (wsV RX1 119 RX1 yX1_explaining wsX1_explaining) := goodIn_app (goodIn_of _ (by decide +kernel)) ggX1_digest_X1_explaining
set_option maxRecDepth 20000 in
theorem ggX1_digest_X1_inAll : GoodIn wsX1_digest wsX1_inAll := goodIn_r _ [61, 22, 23, 24, 16, 25, 3, 26, 27, 28, 29, 4, 9, 10, 30, 31, 32, 78, 79, 80, 81, 82, 83, 84, 85, 86, 87] (by decide +kernel) (by decide +kernel)
set_option maxRecDepth 20000 in
theorem gX1_digest_X1_inAll : GoodIn wsX1_digest (wsV RX1 122 RX1 yX1_inAll wsX1_inAll) := goodIn_app (goodIn_of _ (by decide +kernel)) ggX1_digest_X1_inAll
set_option maxRecDepth 20000 in
theorem ggX1_digest_X1_nightsOf : GoodIn wsX1_digest wsX1_nightsOf := goodIn_r _ [65, 4, 9, 10, 51, 52, 16, 53, 78, 79, 80, 81, 82, 83, 84, 85, 86, 87] (by decide +kernel) (by decide +kernel)
set_option maxRecDepth 20000 in
theorem gX1_digest_X1_nightsOf : GoodIn wsX1_digest (wsV RX1 94 RX1 yX1_nightsOf wsX1_nightsOf) := goodIn_app (goodIn_of _ (by decide +kernel)) ggX1_digest_X1_nightsOf
set_option maxRecDepth 20000 in
theorem ggX1_digest_X1_cleared : GoodIn wsX1_digest wsX1_cleared := goodIn_r _ [69, 4, 10, 9, 78, 79, 80, 81, 82, 83, 84, 85, 86, 87] (by decide +kernel) (by decide +kernel)
set_option maxRecDepth 20000 in
theorem gX1_digest_X1_cleared : GoodIn wsX1_digest (wsV RX1 98 RX1 yX1_cleared wsX1_cleared) := goodIn_app (goodIn_of _ (by decide +kernel)) ggX1_digest_X1_cleared
set_option maxRecDepth 20000 in
theorem ggX1_digest_X1_has : GoodIn wsX1_digest wsX1_has := goodIn_r _ [53] (by decide +kernel) (by decide +kernel)
set_option maxRecDepth 20000 in
theorem gX1_digest_X1_has : GoodIn wsX1_digest (va_wsS RX1 60 yX1_has wsX1_has) := goodIn_app (goodIn_of _ (by decide +kernel)) ggX1_digest_X1_has
set_option maxRecDepth 20000 in
theorem ggX1_digest_X1_proved : GoodIn wsX1_digest wsX1_proved := goodIn_r _ [73, 4, 10, 9, 66, 67, 68, 16, 69, 51, 52, 53, 78, 79, 80, 81, 82, 83, 84, 85, 86, 87] (by decide +kernel) (by decide +kernel)
set_option maxRecDepth 20000 in
theorem gX1_digest_X1_proved : GoodIn wsX1_digest (wsV RX1 104 RX1 yX1_proved wsX1_proved) := goodIn_app (goodIn_of _ (by decide +kernel)) ggX1_digest_X1_proved
set_option maxRecDepth 20000 in
theorem ggX1_digest_X1_withThing : GoodIn wsX1_digest wsX1_withThing := goodIn_r _ [77, 22, 23, 24, 16, 25, 3, 51, 52, 53, 26, 27, 28, 29, 4, 9, 10, 30, 31, 32, 78, 79, 80, 81, 82, 83, 84, 85, 86, 87] (by decide +kernel) (by decide +kernel)
set_option maxRecDepth 20000 in
theorem gX1_digest_X1_withThing : GoodIn wsX1_digest (wsV RX1 107 RX1 yX1_withThing wsX1_withThing) := goodIn_app (goodIn_of _ (by decide +kernel)) ggX1_digest_X1_withThing
set_option maxRecDepth 20000 in
theorem ggX1_digest_X1_votes : GoodIn wsX1_digest wsX1_votes := goodIn_r _ [50, 5, 11, 51, 52, 16, 53, 78, 79, 80, 81, 82, 83, 84, 85, 86, 87] (by decide +kernel) (by decide +kernel)
set_option maxRecDepth 20000 in
theorem gX1_digest_X1_votes : GoodIn wsX1_digest (wsV RX1 113 RX1 yX1_votes wsX1_votes) := goodIn_app (goodIn_of _ (by decide +kernel)) ggX1_digest_X1_votes
set_option maxRecDepth 20000 in
theorem ggX1_digest_X1_unexplained : GoodIn wsX1_digest wsX1_unexplained := goodIn_r _ [29, 4, 9, 10, 30, 31, 16, 32, 78, 79, 80, 81, 82, 83, 84, 85, 86, 87] (by decide +kernel) (by decide +kernel)
set_option maxRecDepth 20000 in
theorem gX1_digest_X1_unexplained : GoodIn wsX1_digest (wsV RX1 51 RX1 yX1_unexplained wsX1_unexplained) := goodIn_app (goodIn_of _ (by decide +kernel)) ggX1_digest_X1_unexplained
theorem dX1_digest_0 : decode cX1_digest 0 = .ok (.aload_n 0, 1) := by decide +kernel
theorem dX1_digest_1 : decode cX1_digest 1 = .ok (.iconst 0, 1) := by decide +kernel
theorem dX1_digest_2 : decode cX1_digest 2 = .ok (.putfield 26, 3) := by decide +kernel
theorem dX1_digest_5 : decode cX1_digest 5 = .ok (.bipush 10, 2) := by decide +kernel
theorem dX1_digest_7 : decode cX1_digest 7 = .ok (.newarray .int, 2) := by decide +kernel
theorem dX1_digest_9 : decode cX1_digest 9 = .ok (.dup, 1) := by decide +kernel
theorem dX1_digest_10 : decode cX1_digest 10 = .ok (.iconst 0, 1) := by decide +kernel
theorem dX1_digest_11 : decode cX1_digest 11 = .ok (.aload_n 0, 1) := by decide +kernel
theorem dX1_digest_12 : decode cX1_digest 12 = .ok (.getfield 30, 3) := by decide +kernel
theorem dX1_digest_15 : decode cX1_digest 15 = .ok (.iastore, 1) := by decide +kernel
theorem dX1_digest_16 : decode cX1_digest 16 = .ok (.dup, 1) := by decide +kernel
theorem dX1_digest_17 : decode cX1_digest 17 = .ok (.iconst 1, 1) := by decide +kernel
theorem dX1_digest_18 : decode cX1_digest 18 = .ok (.aload_n 0, 1) := by decide +kernel
theorem dX1_digest_19 : decode cX1_digest 19 = .ok (.getfield 37, 3) := by decide +kernel
theorem dX1_digest_22 : decode cX1_digest 22 = .ok (.iastore, 1) := by decide +kernel
theorem dX1_digest_23 : decode cX1_digest 23 = .ok (.dup, 1) := by decide +kernel
theorem dX1_digest_24 : decode cX1_digest 24 = .ok (.iconst 2, 1) := by decide +kernel
theorem dX1_digest_25 : decode cX1_digest 25 = .ok (.aload_n 0, 1) := by decide +kernel
theorem dX1_digest_26 : decode cX1_digest 26 = .ok (.invokevirtual 110, 3) := by decide +kernel
theorem dX1_digest_29 : decode cX1_digest 29 = .ok (.iastore, 1) := by decide +kernel
theorem dX1_digest_30 : decode cX1_digest 30 = .ok (.dup, 1) := by decide +kernel
theorem dX1_digest_31 : decode cX1_digest 31 = .ok (.iconst 3, 1) := by decide +kernel
theorem dX1_digest_32 : decode cX1_digest 32 = .ok (.aload_n 0, 1) := by decide +kernel
theorem dX1_digest_33 : decode cX1_digest 33 = .ok (.invokevirtual 79, 3) := by decide +kernel
theorem dX1_digest_36 : decode cX1_digest 36 = .ok (.iconst (-1), 1) := by decide +kernel
theorem dX1_digest_37 : decode cX1_digest 37 = .ok (.if_icmp .eq 7, 3) := by decide +kernel
theorem dX1_digest_40 : decode cX1_digest 40 = .ok (.iconst 1, 1) := by decide +kernel
theorem dX1_digest_41 : decode cX1_digest 41 = .ok (.goto 4, 3) := by decide +kernel
theorem dX1_digest_44 : decode cX1_digest 44 = .ok (.iconst 0, 1) := by decide +kernel
theorem dX1_digest_45 : decode cX1_digest 45 = .ok (.invokestatic 137, 3) := by decide +kernel
theorem dX1_digest_48 : decode cX1_digest 48 = .ok (.iastore, 1) := by decide +kernel
theorem dX1_digest_49 : decode cX1_digest 49 = .ok (.dup, 1) := by decide +kernel
theorem dX1_digest_50 : decode cX1_digest 50 = .ok (.iconst 4, 1) := by decide +kernel
theorem dX1_digest_51 : decode cX1_digest 51 = .ok (.aload_n 0, 1) := by decide +kernel
theorem dX1_digest_52 : decode cX1_digest 52 = .ok (.getfield 40, 3) := by decide +kernel
theorem dX1_digest_55 : decode cX1_digest 55 = .ok (.iastore, 1) := by decide +kernel
theorem dX1_digest_56 : decode cX1_digest 56 = .ok (.dup, 1) := by decide +kernel
theorem dX1_digest_57 : decode cX1_digest 57 = .ok (.iconst 5, 1) := by decide +kernel
theorem dX1_digest_58 : decode cX1_digest 58 = .ok (.aload_n 0, 1) := by decide +kernel
theorem dX1_digest_59 : decode cX1_digest 59 = .ok (.invokevirtual 116, 3) := by decide +kernel
theorem dX1_digest_62 : decode cX1_digest 62 = .ok (.iastore, 1) := by decide +kernel
theorem dX1_digest_63 : decode cX1_digest 63 = .ok (.dup, 1) := by decide +kernel
theorem dX1_digest_64 : decode cX1_digest 64 = .ok (.bipush 6, 2) := by decide +kernel
theorem dX1_digest_66 : decode cX1_digest 66 = .ok (.aload_n 0, 1) := by decide +kernel
theorem dX1_digest_67 : decode cX1_digest 67 = .ok (.getfield 82, 3) := by decide +kernel
theorem dX1_digest_70 : decode cX1_digest 70 = .ok (.iastore, 1) := by decide +kernel
theorem dX1_digest_71 : decode cX1_digest 71 = .ok (.dup, 1) := by decide +kernel
theorem dX1_digest_72 : decode cX1_digest 72 = .ok (.bipush 7, 2) := by decide +kernel
theorem dX1_digest_74 : decode cX1_digest 74 = .ok (.aload_n 0, 1) := by decide +kernel
theorem dX1_digest_75 : decode cX1_digest 75 = .ok (.invokevirtual 119, 3) := by decide +kernel
theorem dX1_digest_78 : decode cX1_digest 78 = .ok (.iastore, 1) := by decide +kernel
theorem dX1_digest_79 : decode cX1_digest 79 = .ok (.dup, 1) := by decide +kernel
theorem dX1_digest_80 : decode cX1_digest 80 = .ok (.bipush 8, 2) := by decide +kernel
theorem dX1_digest_82 : decode cX1_digest 82 = .ok (.aload_n 0, 1) := by decide +kernel
theorem dX1_digest_83 : decode cX1_digest 83 = .ok (.invokevirtual 79, 3) := by decide +kernel
theorem dX1_digest_86 : decode cX1_digest 86 = .ok (.iastore, 1) := by decide +kernel
theorem dX1_digest_87 : decode cX1_digest 87 = .ok (.dup, 1) := by decide +kernel
theorem dX1_digest_88 : decode cX1_digest 88 = .ok (.bipush 9, 2) := by decide +kernel
theorem dX1_digest_90 : decode cX1_digest 90 = .ok (.aload_n 0, 1) := by decide +kernel
theorem dX1_digest_91 : decode cX1_digest 91 = .ok (.invokevirtual 122, 3) := by decide +kernel
theorem dX1_digest_94 : decode cX1_digest 94 = .ok (.iastore, 1) := by decide +kernel
theorem dX1_digest_95 : decode cX1_digest 95 = .ok (.astore_n 1, 1) := by decide +kernel
theorem dX1_digest_96 : decode cX1_digest 96 = .ok (.ldc2_w 141, 3) := by decide +kernel
theorem dX1_digest_99 : decode cX1_digest 99 = .ok (.lstore_n 2, 1) := by decide +kernel
theorem dX1_digest_100 : decode cX1_digest 100 = .ok (.aload_n 1, 1) := by decide +kernel
theorem dX1_digest_101 : decode cX1_digest 101 = .ok (.astore 4, 2) := by decide +kernel
theorem dX1_digest_103 : decode cX1_digest 103 = .ok (.aload 4, 2) := by decide +kernel
theorem dX1_digest_105 : decode cX1_digest 105 = .ok (.arraylength, 1) := by decide +kernel
theorem dX1_digest_106 : decode cX1_digest 106 = .ok (.istore 5, 2) := by decide +kernel
theorem dX1_digest_108 : decode cX1_digest 108 = .ok (.iconst 0, 1) := by decide +kernel
theorem dX1_digest_109 : decode cX1_digest 109 = .ok (.istore 6, 2) := by decide +kernel
theorem dX1_digest_111 : decode cX1_digest 111 = .ok (.iload 6, 2) := by decide +kernel
theorem dX1_digest_113 : decode cX1_digest 113 = .ok (.iload 5, 2) := by decide +kernel
theorem dX1_digest_115 : decode cX1_digest 115 = .ok (.if_icmp .ge 26, 3) := by decide +kernel
theorem dX1_digest_118 : decode cX1_digest 118 = .ok (.aload 4, 2) := by decide +kernel
theorem dX1_digest_120 : decode cX1_digest 120 = .ok (.iload 6, 2) := by decide +kernel
theorem dX1_digest_122 : decode cX1_digest 122 = .ok (.iaload, 1) := by decide +kernel
theorem dX1_digest_123 : decode cX1_digest 123 = .ok (.istore 7, 2) := by decide +kernel
theorem dX1_digest_125 : decode cX1_digest 125 = .ok (.lload_n 2, 1) := by decide +kernel
theorem dX1_digest_126 : decode cX1_digest 126 = .ok (.ldc2_w 143, 3) := by decide +kernel
theorem dX1_digest_129 : decode cX1_digest 129 = .ok (.lmul, 1) := by decide +kernel
theorem dX1_digest_130 : decode cX1_digest 130 = .ok (.iload 7, 2) := by decide +kernel
theorem dX1_digest_132 : decode cX1_digest 132 = .ok (.i2l, 1) := by decide +kernel
theorem dX1_digest_133 : decode cX1_digest 133 = .ok (.ladd, 1) := by decide +kernel
theorem dX1_digest_134 : decode cX1_digest 134 = .ok (.lstore_n 2, 1) := by decide +kernel
theorem dX1_digest_135 : decode cX1_digest 135 = .ok (.iinc 6 1, 3) := by decide +kernel
theorem dX1_digest_138 : decode cX1_digest 138 = .ok (.goto (-27), 3) := by decide +kernel
theorem dX1_digest_141 : decode cX1_digest 141 = .ok (.iconst 0, 1) := by decide +kernel
theorem dX1_digest_142 : decode cX1_digest 142 = .ok (.istore 4, 2) := by decide +kernel
theorem dX1_digest_144 : decode cX1_digest 144 = .ok (.iload 4, 2) := by decide +kernel
theorem dX1_digest_146 : decode cX1_digest 146 = .ok (.aload_n 0, 1) := by decide +kernel
theorem dX1_digest_147 : decode cX1_digest 147 = .ok (.getfield 30, 3) := by decide +kernel
theorem dX1_digest_150 : decode cX1_digest 150 = .ok (.if_icmp .ge 122, 3) := by decide +kernel
theorem dX1_digest_153 : decode cX1_digest 153 = .ok (.bipush 6, 2) := by decide +kernel
theorem dX1_digest_155 : decode cX1_digest 155 = .ok (.newarray .int, 2) := by decide +kernel
theorem dX1_digest_157 : decode cX1_digest 157 = .ok (.dup, 1) := by decide +kernel
theorem dX1_digest_158 : decode cX1_digest 158 = .ok (.iconst 0, 1) := by decide +kernel
theorem dX1_digest_159 : decode cX1_digest 159 = .ok (.aload_n 0, 1) := by decide +kernel
theorem dX1_digest_160 : decode cX1_digest 160 = .ok (.iload 4, 2) := by decide +kernel
theorem dX1_digest_162 : decode cX1_digest 162 = .ok (.iconst 0, 1) := by decide +kernel
theorem dX1_digest_163 : decode cX1_digest 163 = .ok (.invokevirtual 94, 3) := by decide +kernel
theorem dX1_digest_166 : decode cX1_digest 166 = .ok (.iastore, 1) := by decide +kernel
theorem dX1_digest_167 : decode cX1_digest 167 = .ok (.dup, 1) := by decide +kernel
theorem dX1_digest_168 : decode cX1_digest 168 = .ok (.iconst 1, 1) := by decide +kernel
theorem dX1_digest_169 : decode cX1_digest 169 = .ok (.aload_n 0, 1) := by decide +kernel
theorem dX1_digest_170 : decode cX1_digest 170 = .ok (.iload 4, 2) := by decide +kernel
theorem dX1_digest_172 : decode cX1_digest 172 = .ok (.iconst 1, 1) := by decide +kernel
theorem dX1_digest_173 : decode cX1_digest 173 = .ok (.invokevirtual 94, 3) := by decide +kernel
theorem dX1_digest_176 : decode cX1_digest 176 = .ok (.iastore, 1) := by decide +kernel
theorem dX1_digest_177 : decode cX1_digest 177 = .ok (.dup, 1) := by decide +kernel
theorem dX1_digest_178 : decode cX1_digest 178 = .ok (.iconst 2, 1) := by decide +kernel
theorem dX1_digest_179 : decode cX1_digest 179 = .ok (.aload_n 0, 1) := by decide +kernel
theorem dX1_digest_180 : decode cX1_digest 180 = .ok (.invokevirtual 98, 3) := by decide +kernel
theorem dX1_digest_183 : decode cX1_digest 183 = .ok (.iload 4, 2) := by decide +kernel
theorem dX1_digest_185 : decode cX1_digest 185 = .ok (.invokestatic 60, 3) := by decide +kernel
theorem dX1_digest_188 : decode cX1_digest 188 = .ok (.invokestatic 137, 3) := by decide +kernel
theorem dX1_digest_191 : decode cX1_digest 191 = .ok (.iastore, 1) := by decide +kernel
theorem dX1_digest_192 : decode cX1_digest 192 = .ok (.dup, 1) := by decide +kernel
theorem dX1_digest_193 : decode cX1_digest 193 = .ok (.iconst 3, 1) := by decide +kernel
theorem dX1_digest_194 : decode cX1_digest 194 = .ok (.aload_n 0, 1) := by decide +kernel
theorem dX1_digest_195 : decode cX1_digest 195 = .ok (.iload 4, 2) := by decide +kernel
theorem dX1_digest_197 : decode cX1_digest 197 = .ok (.invokevirtual 104, 3) := by decide +kernel
theorem dX1_digest_200 : decode cX1_digest 200 = .ok (.invokestatic 137, 3) := by decide +kernel
theorem dX1_digest_203 : decode cX1_digest 203 = .ok (.iastore, 1) := by decide +kernel
theorem dX1_digest_204 : decode cX1_digest 204 = .ok (.dup, 1) := by decide +kernel
theorem dX1_digest_205 : decode cX1_digest 205 = .ok (.iconst 4, 1) := by decide +kernel
theorem dX1_digest_206 : decode cX1_digest 206 = .ok (.aload_n 0, 1) := by decide +kernel
theorem dX1_digest_207 : decode cX1_digest 207 = .ok (.iload 4, 2) := by decide +kernel
theorem dX1_digest_209 : decode cX1_digest 209 = .ok (.invokevirtual 107, 3) := by decide +kernel
theorem dX1_digest_212 : decode cX1_digest 212 = .ok (.iastore, 1) := by decide +kernel
theorem dX1_digest_213 : decode cX1_digest 213 = .ok (.dup, 1) := by decide +kernel
theorem dX1_digest_214 : decode cX1_digest 214 = .ok (.iconst 5, 1) := by decide +kernel
theorem dX1_digest_215 : decode cX1_digest 215 = .ok (.aload_n 0, 1) := by decide +kernel
theorem dX1_digest_216 : decode cX1_digest 216 = .ok (.iload 4, 2) := by decide +kernel
theorem dX1_digest_218 : decode cX1_digest 218 = .ok (.invokevirtual 113, 3) := by decide +kernel
theorem dX1_digest_221 : decode cX1_digest 221 = .ok (.iastore, 1) := by decide +kernel
theorem dX1_digest_222 : decode cX1_digest 222 = .ok (.astore 5, 2) := by decide +kernel
theorem dX1_digest_224 : decode cX1_digest 224 = .ok (.aload 5, 2) := by decide +kernel
theorem dX1_digest_226 : decode cX1_digest 226 = .ok (.astore 6, 2) := by decide +kernel
theorem dX1_digest_228 : decode cX1_digest 228 = .ok (.aload 6, 2) := by decide +kernel
theorem dX1_digest_230 : decode cX1_digest 230 = .ok (.arraylength, 1) := by decide +kernel
theorem dX1_digest_231 : decode cX1_digest 231 = .ok (.istore 7, 2) := by decide +kernel
theorem dX1_digest_233 : decode cX1_digest 233 = .ok (.iconst 0, 1) := by decide +kernel
theorem dX1_digest_234 : decode cX1_digest 234 = .ok (.istore 8, 2) := by decide +kernel
theorem dX1_digest_236 : decode cX1_digest 236 = .ok (.iload 8, 2) := by decide +kernel
theorem dX1_digest_238 : decode cX1_digest 238 = .ok (.iload 7, 2) := by decide +kernel
theorem dX1_digest_240 : decode cX1_digest 240 = .ok (.if_icmp .ge 26, 3) := by decide +kernel
theorem dX1_digest_243 : decode cX1_digest 243 = .ok (.aload 6, 2) := by decide +kernel
theorem dX1_digest_245 : decode cX1_digest 245 = .ok (.iload 8, 2) := by decide +kernel
theorem dX1_digest_247 : decode cX1_digest 247 = .ok (.iaload, 1) := by decide +kernel
theorem dX1_digest_248 : decode cX1_digest 248 = .ok (.istore 9, 2) := by decide +kernel
theorem dX1_digest_250 : decode cX1_digest 250 = .ok (.lload_n 2, 1) := by decide +kernel
theorem dX1_digest_251 : decode cX1_digest 251 = .ok (.ldc2_w 143, 3) := by decide +kernel
theorem dX1_digest_254 : decode cX1_digest 254 = .ok (.lmul, 1) := by decide +kernel
theorem dX1_digest_255 : decode cX1_digest 255 = .ok (.iload 9, 2) := by decide +kernel
theorem dX1_digest_257 : decode cX1_digest 257 = .ok (.i2l, 1) := by decide +kernel
theorem dX1_digest_258 : decode cX1_digest 258 = .ok (.ladd, 1) := by decide +kernel
theorem dX1_digest_259 : decode cX1_digest 259 = .ok (.lstore_n 2, 1) := by decide +kernel
theorem dX1_digest_260 : decode cX1_digest 260 = .ok (.iinc 8 1, 3) := by decide +kernel
theorem dX1_digest_263 : decode cX1_digest 263 = .ok (.goto (-27), 3) := by decide +kernel
theorem dX1_digest_266 : decode cX1_digest 266 = .ok (.iinc 4 1, 3) := by decide +kernel
theorem dX1_digest_269 : decode cX1_digest 269 = .ok (.goto (-125), 3) := by decide +kernel
theorem dX1_digest_272 : decode cX1_digest 272 = .ok (.iconst 0, 1) := by decide +kernel
theorem dX1_digest_273 : decode cX1_digest 273 = .ok (.istore 4, 2) := by decide +kernel
theorem dX1_digest_275 : decode cX1_digest 275 = .ok (.iload 4, 2) := by decide +kernel
theorem dX1_digest_277 : decode cX1_digest 277 = .ok (.aload_n 0, 1) := by decide +kernel
theorem dX1_digest_278 : decode cX1_digest 278 = .ok (.getfield 37, 3) := by decide +kernel
theorem dX1_digest_281 : decode cX1_digest 281 = .ok (.if_icmp .ge 40, 3) := by decide +kernel
theorem dX1_digest_284 : decode cX1_digest 284 = .ok (.lload_n 2, 1) := by decide +kernel
theorem dX1_digest_285 : decode cX1_digest 285 = .ok (.ldc2_w 143, 3) := by decide +kernel
theorem dX1_digest_288 : decode cX1_digest 288 = .ok (.lmul, 1) := by decide +kernel
theorem dX1_digest_289 : decode cX1_digest 289 = .ok (.aload_n 0, 1) := by decide +kernel
theorem dX1_digest_290 : decode cX1_digest 290 = .ok (.getfield 9, 3) := by decide +kernel
theorem dX1_digest_293 : decode cX1_digest 293 = .ok (.iload 4, 2) := by decide +kernel
theorem dX1_digest_295 : decode cX1_digest 295 = .ok (.iaload, 1) := by decide +kernel
theorem dX1_digest_296 : decode cX1_digest 296 = .ok (.i2l, 1) := by decide +kernel
theorem dX1_digest_297 : decode cX1_digest 297 = .ok (.ladd, 1) := by decide +kernel
theorem dX1_digest_298 : decode cX1_digest 298 = .ok (.ldc2_w 143, 3) := by decide +kernel
theorem dX1_digest_301 : decode cX1_digest 301 = .ok (.lmul, 1) := by decide +kernel
theorem dX1_digest_302 : decode cX1_digest 302 = .ok (.aload_n 0, 1) := by decide +kernel
theorem dX1_digest_303 : decode cX1_digest 303 = .ok (.getfield 13, 3) := by decide +kernel
theorem dX1_digest_306 : decode cX1_digest 306 = .ok (.iload 4, 2) := by decide +kernel
theorem dX1_digest_308 : decode cX1_digest 308 = .ok (.baload, 1) := by decide +kernel
theorem dX1_digest_309 : decode cX1_digest 309 = .ok (.invokestatic 137, 3) := by decide +kernel
theorem dX1_digest_312 : decode cX1_digest 312 = .ok (.i2l, 1) := by decide +kernel
theorem dX1_digest_313 : decode cX1_digest 313 = .ok (.ladd, 1) := by decide +kernel
theorem dX1_digest_314 : decode cX1_digest 314 = .ok (.lstore_n 2, 1) := by decide +kernel
theorem dX1_digest_315 : decode cX1_digest 315 = .ok (.iinc 4 1, 3) := by decide +kernel
theorem dX1_digest_318 : decode cX1_digest 318 = .ok (.goto (-43), 3) := by decide +kernel
theorem dX1_digest_321 : decode cX1_digest 321 = .ok (.iconst 0, 1) := by decide +kernel
theorem dX1_digest_322 : decode cX1_digest 322 = .ok (.istore 4, 2) := by decide +kernel
theorem dX1_digest_324 : decode cX1_digest 324 = .ok (.iload 4, 2) := by decide +kernel
theorem dX1_digest_326 : decode cX1_digest 326 = .ok (.aload_n 0, 1) := by decide +kernel
theorem dX1_digest_327 : decode cX1_digest 327 = .ok (.getfield 40, 3) := by decide +kernel
theorem dX1_digest_330 : decode cX1_digest 330 = .ok (.if_icmp .ge 54, 3) := by decide +kernel
theorem dX1_digest_333 : decode cX1_digest 333 = .ok (.lload_n 2, 1) := by decide +kernel
theorem dX1_digest_334 : decode cX1_digest 334 = .ok (.ldc2_w 143, 3) := by decide +kernel
theorem dX1_digest_337 : decode cX1_digest 337 = .ok (.lmul, 1) := by decide +kernel
theorem dX1_digest_338 : decode cX1_digest 338 = .ok (.aload_n 0, 1) := by decide +kernel
theorem dX1_digest_339 : decode cX1_digest 339 = .ok (.getfield 23, 3) := by decide +kernel
theorem dX1_digest_342 : decode cX1_digest 342 = .ok (.iload 4, 2) := by decide +kernel
theorem dX1_digest_344 : decode cX1_digest 344 = .ok (.iaload, 1) := by decide +kernel
theorem dX1_digest_345 : decode cX1_digest 345 = .ok (.i2l, 1) := by decide +kernel
theorem dX1_digest_346 : decode cX1_digest 346 = .ok (.ladd, 1) := by decide +kernel
theorem dX1_digest_347 : decode cX1_digest 347 = .ok (.ldc2_w 143, 3) := by decide +kernel
theorem dX1_digest_350 : decode cX1_digest 350 = .ok (.lmul, 1) := by decide +kernel
theorem dX1_digest_351 : decode cX1_digest 351 = .ok (.aload_n 0, 1) := by decide +kernel
theorem dX1_digest_352 : decode cX1_digest 352 = .ok (.getfield 20, 3) := by decide +kernel
theorem dX1_digest_355 : decode cX1_digest 355 = .ok (.iload 4, 2) := by decide +kernel
theorem dX1_digest_357 : decode cX1_digest 357 = .ok (.iaload, 1) := by decide +kernel
theorem dX1_digest_358 : decode cX1_digest 358 = .ok (.i2l, 1) := by decide +kernel
theorem dX1_digest_359 : decode cX1_digest 359 = .ok (.ladd, 1) := by decide +kernel
theorem dX1_digest_360 : decode cX1_digest 360 = .ok (.ldc2_w 143, 3) := by decide +kernel
theorem dX1_digest_363 : decode cX1_digest 363 = .ok (.lmul, 1) := by decide +kernel
theorem dX1_digest_364 : decode cX1_digest 364 = .ok (.aload_n 0, 1) := by decide +kernel
theorem dX1_digest_365 : decode cX1_digest 365 = .ok (.aload_n 0, 1) := by decide +kernel
theorem dX1_digest_366 : decode cX1_digest 366 = .ok (.getfield 23, 3) := by decide +kernel
theorem dX1_digest_369 : decode cX1_digest 369 = .ok (.iload 4, 2) := by decide +kernel
theorem dX1_digest_371 : decode cX1_digest 371 = .ok (.iaload, 1) := by decide +kernel
theorem dX1_digest_372 : decode cX1_digest 372 = .ok (.invokevirtual 51, 3) := by decide +kernel
theorem dX1_digest_375 : decode cX1_digest 375 = .ok (.i2l, 1) := by decide +kernel
theorem dX1_digest_376 : decode cX1_digest 376 = .ok (.ladd, 1) := by decide +kernel
theorem dX1_digest_377 : decode cX1_digest 377 = .ok (.lstore_n 2, 1) := by decide +kernel
theorem dX1_digest_378 : decode cX1_digest 378 = .ok (.iinc 4 1, 3) := by decide +kernel
theorem dX1_digest_381 : decode cX1_digest 381 = .ok (.goto (-57), 3) := by decide +kernel
theorem dX1_digest_384 : decode cX1_digest 384 = .ok (.lload_n 2, 1) := by decide +kernel
theorem dX1_digest_385 : decode cX1_digest 385 = .ok (.lreturn, 1) := by decide +kernel
