theorem dX2_balance_48 : decode cX2_balance 48 = .ok (.isub, 1) := by decide +kernel
theorem dX2_balance_49 : decode cX2_balance 49 = .ok (.ireturn, 1) := by decide +kernel
set_option maxRecDepth 20000 in
set_option maxRecDepth 100000 in
theorem ggX3_init_X3_reach : GoodIn wsX3_init wsX3_reach := goodIn_r _ [10] (by rfl) (by decide +kernel)
set_option maxRecDepth 20000 in
theorem gX3_init_X3_reach : GoodIn wsX3_init (va_wsS RX3 18 yX3_reach wsX3_reach) := goodIn_app (goodIn_of _ (by decide +kernel)) ggX3_init_X3_reach
theorem dX3_init_0 : decode cX3_init 0 = .ok (.aload_n 0, 1) := by decide +kernel
theorem dX3_init_1 : decode cX3_init 1 = .ok (.invokespecial 3, 3) := by decide +kernel
theorem dX3_init_4 : decode cX3_init 4 = .ok (.aload_n 0, 1) := by decide +kernel
theorem dX3_init_5 : decode cX3_init 5 = .ok (.bipush 72, 2) := by decide +kernel
theorem dX3_init_7 : decode cX3_init 7 = .ok (.newarray .int, 2) := by decide +kernel
theorem dX3_init_9 : decode cX3_init 9 = .ok (.putfield 9, 3) := by decide +kernel
theorem dX3_init_12 : decode cX3_init 12 = .ok (.aload_n 0, 1) := by decide +kernel
theorem dX3_init_13 : decode cX3_init 13 = .ok (.bipush 72, 2) := by decide +kernel
theorem dX3_init_15 : decode cX3_init 15 = .ok (.newarray .int, 2) := by decide +kernel
theorem dX3_init_17 : decode cX3_init 17 = .ok (.putfield 15, 3) := by decide +kernel
theorem dX3_init_20 : decode cX3_init 20 = .ok (.iconst 0, 1) := by decide +kernel
theorem dX3_init_21 : decode cX3_init 21 = .ok (.istore_n 1, 1) := by decide +kernel
theorem dX3_init_22 : decode cX3_init 22 = .ok (.iload_n 1, 1) := by decide +kernel
theorem dX3_init_23 : decode cX3_init 23 = .ok (.bipush 18, 2) := by decide +kernel
theorem dX3_init_25 : decode cX3_init 25 = .ok (.if_icmp .ge 54, 3) := by decide +kernel
theorem dX3_init_28 : decode cX3_init 28 = .ok (.iconst 0, 1) := by decide +kernel
theorem dX3_init_29 : decode cX3_init 29 = .ok (.istore_n 2, 1) := by decide +kernel
theorem dX3_init_30 : decode cX3_init 30 = .ok (.iload_n 2, 1) := by decide +kernel
theorem dX3_init_31 : decode cX3_init 31 = .ok (.iconst 4, 1) := by decide +kernel
theorem dX3_init_32 : decode cX3_init 32 = .ok (.if_icmp .ge 41, 3) := by decide +kernel
theorem dX3_init_35 : decode cX3_init 35 = .ok (.aload_n 0, 1) := by decide +kernel
theorem dX3_init_36 : decode cX3_init 36 = .ok (.getfield 9, 3) := by decide +kernel
theorem dX3_init_39 : decode cX3_init 39 = .ok (.iload_n 1, 1) := by decide +kernel
theorem dX3_init_40 : decode cX3_init 40 = .ok (.iconst 4, 1) := by decide +kernel
theorem dX3_init_41 : decode cX3_init 41 = .ok (.imul, 1) := by decide +kernel
theorem dX3_init_42 : decode cX3_init 42 = .ok (.iload_n 2, 1) := by decide +kernel
theorem dX3_init_43 : decode cX3_init 43 = .ok (.iadd, 1) := by decide +kernel
theorem dX3_init_44 : decode cX3_init 44 = .ok (.iload_n 1, 1) := by decide +kernel
theorem dX3_init_45 : decode cX3_init 45 = .ok (.iload_n 2, 1) := by decide +kernel
theorem dX3_init_46 : decode cX3_init 46 = .ok (.iconst 1, 1) := by decide +kernel
theorem dX3_init_47 : decode cX3_init 47 = .ok (.invokestatic 18, 3) := by decide +kernel
theorem dX3_init_50 : decode cX3_init 50 = .ok (.iastore, 1) := by decide +kernel
theorem dX3_init_51 : decode cX3_init 51 = .ok (.aload_n 0, 1) := by decide +kernel
theorem dX3_init_52 : decode cX3_init 52 = .ok (.getfield 15, 3) := by decide +kernel
theorem dX3_init_55 : decode cX3_init 55 = .ok (.iload_n 1, 1) := by decide +kernel
theorem dX3_init_56 : decode cX3_init 56 = .ok (.iconst 4, 1) := by decide +kernel
theorem dX3_init_57 : decode cX3_init 57 = .ok (.imul, 1) := by decide +kernel
theorem dX3_init_58 : decode cX3_init 58 = .ok (.iload_n 2, 1) := by decide +kernel
theorem dX3_init_59 : decode cX3_init 59 = .ok (.iadd, 1) := by decide +kernel
theorem dX3_init_60 : decode cX3_init 60 = .ok (.iload_n 1, 1) := by decide +kernel
theorem dX3_init_61 : decode cX3_init 61 = .ok (.iload_n 2, 1) := by decide +kernel
theorem dX3_init_62 : decode cX3_init 62 = .ok (.iconst 2, 1) := by decide +kernel
theorem dX3_init_63 : decode cX3_init 63 = .ok (.invokestatic 18, 3) := by decide +kernel
theorem dX3_init_66 : decode cX3_init 66 = .ok (.iastore, 1) := by decide +kernel
theorem dX3_init_67 : decode cX3_init 67 = .ok (.iinc 2 1, 3) := by decide +kernel
theorem dX3_init_70 : decode cX3_init 70 = .ok (.goto (-40), 3) := by decide +kernel
theorem dX3_init_73 : decode cX3_init 73 = .ok (.iinc 1 1, 3) := by decide +kernel
theorem dX3_init_76 : decode cX3_init 76 = .ok (.goto (-54), 3) := by decide +kernel
theorem dX3_init_79 : decode cX3_init 79 = .ok (.return_, 1) := by decide +kernel
theorem dX3_reach_0 : decode cX3_reach 0 = .ok (.iload_n 0, 1) := by decide +kernel
theorem dX3_reach_1 : decode cX3_reach 1 = .ok (.iconst 3, 1) := by decide +kernel
theorem dX3_reach_2 : decode cX3_reach 2 = .ok (.idiv, 1) := by decide +kernel
theorem dX3_reach_3 : decode cX3_reach 3 = .ok (.istore_n 3, 1) := by decide +kernel
theorem dX3_reach_4 : decode cX3_reach 4 = .ok (.iconst 2, 1) := by decide +kernel
theorem dX3_reach_5 : decode cX3_reach 5 = .ok (.iload_n 0, 1) := by decide +kernel
theorem dX3_reach_6 : decode cX3_reach 6 = .ok (.iconst 3, 1) := by decide +kernel
theorem dX3_reach_7 : decode cX3_reach 7 = .ok (.irem, 1) := by decide +kernel
theorem dX3_reach_8 : decode cX3_reach 8 = .ok (.imul, 1) := by decide +kernel
theorem dX3_reach_9 : decode cX3_reach 9 = .ok (.iload_n 3, 1) := by decide +kernel
theorem dX3_reach_10 : decode cX3_reach 10 = .ok (.iconst 2, 1) := by decide +kernel
theorem dX3_reach_11 : decode cX3_reach 11 = .ok (.irem, 1) := by decide +kernel
theorem dX3_reach_12 : decode cX3_reach 12 = .ok (.iadd, 1) := by decide +kernel
theorem dX3_reach_13 : decode cX3_reach 13 = .ok (.istore 4, 2) := by decide +kernel
theorem dX3_reach_15 : decode cX3_reach 15 = .ok (.iload_n 3, 1) := by decide +kernel
theorem dX3_reach_16 : decode cX3_reach 16 = .ok (.iload_n 1, 1) := by decide +kernel
theorem dX3_reach_17 : decode cX3_reach 17 = .ok (.iconst 2, 1) := by decide +kernel
theorem dX3_reach_18 : decode cX3_reach 18 = .ok (.if_icmp .ge 8, 3) := by decide +kernel
theorem dX3_reach_21 : decode cX3_reach 21 = .ok (.iload_n 2, 1) := by decide +kernel
theorem dX3_reach_22 : decode cX3_reach 22 = .ok (.ineg, 1) := by decide +kernel
theorem dX3_reach_23 : decode cX3_reach 23 = .ok (.goto 4, 3) := by decide +kernel
theorem dX3_reach_26 : decode cX3_reach 26 = .ok (.iload_n 2, 1) := by decide +kernel
theorem dX3_reach_27 : decode cX3_reach 27 = .ok (.iadd, 1) := by decide +kernel
theorem dX3_reach_28 : decode cX3_reach 28 = .ok (.istore_n 3, 1) := by decide +kernel
theorem dX3_reach_29 : decode cX3_reach 29 = .ok (.iload 4, 2) := by decide +kernel
theorem dX3_reach_31 : decode cX3_reach 31 = .ok (.iload_n 1, 1) := by decide +kernel
theorem dX3_reach_32 : decode cX3_reach 32 = .ok (.iconst 2, 1) := by decide +kernel
theorem dX3_reach_33 : decode cX3_reach 33 = .ok (.irem, 1) := by decide +kernel
theorem dX3_reach_34 : decode cX3_reach 34 = .ok (.ifCond .ne 8, 3) := by decide +kernel
theorem dX3_reach_37 : decode cX3_reach 37 = .ok (.iload_n 2, 1) := by decide +kernel
theorem dX3_reach_38 : decode cX3_reach 38 = .ok (.ineg, 1) := by decide +kernel
theorem dX3_reach_39 : decode cX3_reach 39 = .ok (.goto 4, 3) := by decide +kernel
theorem dX3_reach_42 : decode cX3_reach 42 = .ok (.iload_n 2, 1) := by decide +kernel
theorem dX3_reach_43 : decode cX3_reach 43 = .ok (.iadd, 1) := by decide +kernel
theorem dX3_reach_44 : decode cX3_reach 44 = .ok (.istore 4, 2) := by decide +kernel
theorem dX3_reach_46 : decode cX3_reach 46 = .ok (.iload_n 3, 1) := by decide +kernel
theorem dX3_reach_47 : decode cX3_reach 47 = .ok (.ifCond .lt 21, 3) := by decide +kernel
theorem dX3_reach_50 : decode cX3_reach 50 = .ok (.iload_n 3, 1) := by decide +kernel
theorem dX3_reach_51 : decode cX3_reach 51 = .ok (.bipush 6, 2) := by decide +kernel
theorem dX3_reach_53 : decode cX3_reach 53 = .ok (.if_icmp .ge 15, 3) := by decide +kernel
theorem dX3_reach_56 : decode cX3_reach 56 = .ok (.iload 4, 2) := by decide +kernel
theorem dX3_reach_58 : decode cX3_reach 58 = .ok (.ifCond .lt 10, 3) := by decide +kernel
theorem dX3_reach_61 : decode cX3_reach 61 = .ok (.iload 4, 2) := by decide +kernel
theorem dX3_reach_63 : decode cX3_reach 63 = .ok (.bipush 6, 2) := by decide +kernel
theorem dX3_reach_65 : decode cX3_reach 65 = .ok (.if_icmp .lt 5, 3) := by decide +kernel
theorem dX3_reach_68 : decode cX3_reach 68 = .ok (.iconst (-1), 1) := by decide +kernel
theorem dX3_reach_69 : decode cX3_reach 69 = .ok (.ireturn, 1) := by decide +kernel
theorem dX3_reach_70 : decode cX3_reach 70 = .ok (.iload_n 3, 1) := by decide +kernel
theorem dX3_reach_71 : decode cX3_reach 71 = .ok (.iconst 3, 1) := by decide +kernel
theorem dX3_reach_72 : decode cX3_reach 72 = .ok (.imul, 1) := by decide +kernel
theorem dX3_reach_73 : decode cX3_reach 73 = .ok (.iload 4, 2) := by decide +kernel
theorem dX3_reach_75 : decode cX3_reach 75 = .ok (.iconst 2, 1) := by decide +kernel
theorem dX3_reach_76 : decode cX3_reach 76 = .ok (.idiv, 1) := by decide +kernel
theorem dX3_reach_77 : decode cX3_reach 77 = .ok (.iadd, 1) := by decide +kernel
theorem dX3_reach_78 : decode cX3_reach 78 = .ok (.ireturn, 1) := by decide +kernel
set_option maxRecDepth 20000 in
set_option maxRecDepth 100000 in
theorem ggX3_firstDirection_X2_isKing : GoodIn wsX3_firstDirection wsX2_isKing := goodIn_r _ [6, 7, 8, 9, 10, 11, 12] (by rfl) (by decide +kernel)
set_option maxRecDepth 20000 in
theorem gX3_firstDirection_X2_isKing : GoodIn wsX3_firstDirection (wsV RX3 22 RX2 yX2_isKing wsX2_isKing) := goodIn_app (goodIn_of _ (by decide +kernel)) ggX3_firstDirection_X2_isKing
theorem dX3_firstDirection_0 : decode cX3_firstDirection 0 = .ok (.aload_n 0, 1) := by decide +kernel
theorem dX3_firstDirection_1 : decode cX3_firstDirection 1 = .ok (.iload_n 1, 1) := by decide +kernel
theorem dX3_firstDirection_2 : decode cX3_firstDirection 2 = .ok (.invokevirtual 22, 3) := by decide +kernel
theorem dX3_firstDirection_5 : decode cX3_firstDirection 5 = .ok (.ifCond .ne 11, 3) := by decide +kernel
theorem dX3_firstDirection_8 : decode cX3_firstDirection 8 = .ok (.aload_n 0, 1) := by decide +kernel
theorem dX3_firstDirection_9 : decode cX3_firstDirection 9 = .ok (.getfield 28, 3) := by decide +kernel
theorem dX3_firstDirection_12 : decode cX3_firstDirection 12 = .ok (.iconst 1, 1) := by decide +kernel
theorem dX3_firstDirection_13 : decode cX3_firstDirection 13 = .ok (.if_icmp .ne 7, 3) := by decide +kernel
theorem dX3_firstDirection_16 : decode cX3_firstDirection 16 = .ok (.iconst 0, 1) := by decide +kernel
theorem dX3_firstDirection_17 : decode cX3_firstDirection 17 = .ok (.goto 4, 3) := by decide +kernel
theorem dX3_firstDirection_20 : decode cX3_firstDirection 20 = .ok (.iconst 2, 1) := by decide +kernel
theorem dX3_firstDirection_21 : decode cX3_firstDirection 21 = .ok (.ireturn, 1) := by decide +kernel
set_option maxRecDepth 20000 in
set_option maxRecDepth 100000 in
theorem ggX3_lastDirection_X2_isKing : GoodIn wsX3_lastDirection wsX2_isKing := goodIn_r _ [6, 7, 8, 9, 10, 11, 12] (by rfl) (by decide +kernel)
set_option maxRecDepth 20000 in
theorem gX3_lastDirection_X2_isKing : GoodIn wsX3_lastDirection (wsV RX3 22 RX2 yX2_isKing wsX2_isKing) := goodIn_app (goodIn_of _ (by decide +kernel)) ggX3_lastDirection_X2_isKing
theorem dX3_lastDirection_0 : decode cX3_lastDirection 0 = .ok (.aload_n 0, 1) := by decide +kernel
theorem dX3_lastDirection_1 : decode cX3_lastDirection 1 = .ok (.iload_n 1, 1) := by decide +kernel
theorem dX3_lastDirection_2 : decode cX3_lastDirection 2 = .ok (.invokevirtual 22, 3) := by decide +kernel
theorem dX3_lastDirection_5 : decode cX3_lastDirection 5 = .ok (.ifCond .ne 10, 3) := by decide +kernel
theorem dX3_lastDirection_8 : decode cX3_lastDirection 8 = .ok (.aload_n 0, 1) := by decide +kernel
theorem dX3_lastDirection_9 : decode cX3_lastDirection 9 = .ok (.getfield 28, 3) := by decide +kernel
theorem dX3_lastDirection_12 : decode cX3_lastDirection 12 = .ok (.ifCond .ne 7, 3) := by decide +kernel
theorem dX3_lastDirection_15 : decode cX3_lastDirection 15 = .ok (.iconst 3, 1) := by decide +kernel
theorem dX3_lastDirection_16 : decode cX3_lastDirection 16 = .ok (.goto 4, 3) := by decide +kernel
theorem dX3_lastDirection_19 : decode cX3_lastDirection 19 = .ok (.iconst 1, 1) := by decide +kernel
theorem dX3_lastDirection_20 : decode cX3_lastDirection 20 = .ok (.ireturn, 1) := by decide +kernel
set_option maxRecDepth 20000 in
set_option maxRecDepth 100000 in
theorem ggX3_listMoves_X2_own : GoodIn wsX3_listMoves wsX2_own := goodIn_r _ [6, 7, 8, 9, 48, 49, 50, 51, 52] (by rfl) (by decide +kernel)
set_option maxRecDepth 20000 in
theorem gX3_listMoves_X2_own : GoodIn wsX3_listMoves (wsV RX3 37 RX2 yX2_own wsX2_own) := goodIn_app (goodIn_of _ (by decide +kernel)) ggX3_listMoves_X2_own
set_option maxRecDepth 20000 in
set_option maxRecDepth 100000 in
theorem ggX3_listMoves_X3_leapOn : GoodIn wsX3_listMoves wsX3_leapOn := goodIn_r _ [14, 15, 16, 17, 18, 19, 20, 21, 5, 22, 7, 9, 8, 23, 24, 13, 25, 26, 27, 28, 29, 30, 31, 32, 33, 34, 10, 11, 12, 35, 36, 37, 38, 39, 40, 41, 48, 49, 50, 51, 52, 53, 54, 46, 47] (by rfl) (by decide +kernel)
set_option maxRecDepth 20000 in
theorem gX3_listMoves_X3_leapOn : GoodIn wsX3_listMoves (wsV RX3 41 RX3 yX3_leapOn wsX3_leapOn) := goodIn_app (goodIn_of _ (by decide +kernel)) ggX3_listMoves_X3_leapOn
set_option maxRecDepth 20000 in
set_option maxRecDepth 100000 in
theorem ggX3_listMoves_X3_listSteps : GoodIn wsX3_listMoves wsX3_listSteps := goodIn_r _ [45, 15, 16, 17, 23, 24, 13, 25, 26, 27, 28, 29, 5, 30, 31, 32, 33, 34, 35, 36, 37, 38, 39, 40, 41, 48, 49, 50, 51, 52, 53, 54, 46, 47] (by rfl) (by decide +kernel)
set_option maxRecDepth 20000 in
theorem gX3_listMoves_X3_listSteps : GoodIn wsX3_listMoves (wsV RX3 45 RX3 yX3_listSteps wsX3_listSteps) := goodIn_app (goodIn_of _ (by decide +kernel)) ggX3_listMoves_X3_listSteps
theorem dX3_listMoves_0 : decode cX3_listMoves 0 = .ok (.aload_n 2, 1) := by decide +kernel
theorem dX3_listMoves_1 : decode cX3_listMoves 1 = .ok (.iconst 0, 1) := by decide +kernel
theorem dX3_listMoves_2 : decode cX3_listMoves 2 = .ok (.putfield 32, 3) := by decide +kernel
theorem dX3_listMoves_5 : decode cX3_listMoves 5 = .ok (.aload_n 1, 1) := by decide +kernel
theorem dX3_listMoves_6 : decode cX3_listMoves 6 = .ok (.invokevirtual 37, 3) := by decide +kernel
theorem dX3_listMoves_9 : decode cX3_listMoves 9 = .ok (.istore_n 3, 1) := by decide +kernel
theorem dX3_listMoves_10 : decode cX3_listMoves 10 = .ok (.iconst 0, 1) := by decide +kernel
theorem dX3_listMoves_11 : decode cX3_listMoves 11 = .ok (.istore 4, 2) := by decide +kernel
theorem dX3_listMoves_13 : decode cX3_listMoves 13 = .ok (.iload 4, 2) := by decide +kernel
theorem dX3_listMoves_15 : decode cX3_listMoves 15 = .ok (.bipush 18, 2) := by decide +kernel
theorem dX3_listMoves_17 : decode cX3_listMoves 17 = .ok (.if_icmp .ge 30, 3) := by decide +kernel
theorem dX3_listMoves_20 : decode cX3_listMoves 20 = .ok (.iload_n 3, 1) := by decide +kernel
theorem dX3_listMoves_21 : decode cX3_listMoves 21 = .ok (.iload 4, 2) := by decide +kernel
theorem dX3_listMoves_23 : decode cX3_listMoves 23 = .ok (.ishr, 1) := by decide +kernel
theorem dX3_listMoves_24 : decode cX3_listMoves 24 = .ok (.iconst 1, 1) := by decide +kernel
theorem dX3_listMoves_25 : decode cX3_listMoves 25 = .ok (.iand, 1) := by decide +kernel
theorem dX3_listMoves_26 : decode cX3_listMoves 26 = .ok (.ifCond .eq 15, 3) := by decide +kernel
theorem dX3_listMoves_29 : decode cX3_listMoves 29 = .ok (.aload_n 0, 1) := by decide +kernel
theorem dX3_listMoves_30 : decode cX3_listMoves 30 = .ok (.aload_n 1, 1) := by decide +kernel
theorem dX3_listMoves_31 : decode cX3_listMoves 31 = .ok (.aload_n 2, 1) := by decide +kernel
theorem dX3_listMoves_32 : decode cX3_listMoves 32 = .ok (.iload 4, 2) := by decide +kernel
theorem dX3_listMoves_34 : decode cX3_listMoves 34 = .ok (.iload 4, 2) := by decide +kernel
theorem dX3_listMoves_36 : decode cX3_listMoves 36 = .ok (.iconst 0, 1) := by decide +kernel
theorem dX3_listMoves_37 : decode cX3_listMoves 37 = .ok (.iconst 0, 1) := by decide +kernel
theorem dX3_listMoves_38 : decode cX3_listMoves 38 = .ok (.invokevirtual 41, 3) := by decide +kernel
theorem dX3_listMoves_41 : decode cX3_listMoves 41 = .ok (.iinc 4 1, 3) := by decide +kernel
theorem dX3_listMoves_44 : decode cX3_listMoves 44 = .ok (.goto (-31), 3) := by decide +kernel
theorem dX3_listMoves_47 : decode cX3_listMoves 47 = .ok (.aload_n 2, 1) := by decide +kernel
theorem dX3_listMoves_48 : decode cX3_listMoves 48 = .ok (.getfield 32, 3) := by decide +kernel
theorem dX3_listMoves_51 : decode cX3_listMoves 51 = .ok (.ifCond .le 4, 3) := by decide +kernel
theorem dX3_listMoves_54 : decode cX3_listMoves 54 = .ok (.return_, 1) := by decide +kernel
theorem dX3_listMoves_55 : decode cX3_listMoves 55 = .ok (.iconst 0, 1) := by decide +kernel
theorem dX3_listMoves_56 : decode cX3_listMoves 56 = .ok (.istore 4, 2) := by decide +kernel
theorem dX3_listMoves_58 : decode cX3_listMoves 58 = .ok (.iload 4, 2) := by decide +kernel
theorem dX3_listMoves_60 : decode cX3_listMoves 60 = .ok (.bipush 18, 2) := by decide +kernel
theorem dX3_listMoves_62 : decode cX3_listMoves 62 = .ok (.if_icmp .ge 26, 3) := by decide +kernel
theorem dX3_listMoves_65 : decode cX3_listMoves 65 = .ok (.iload_n 3, 1) := by decide +kernel
theorem dX3_listMoves_66 : decode cX3_listMoves 66 = .ok (.iload 4, 2) := by decide +kernel
theorem dX3_listMoves_68 : decode cX3_listMoves 68 = .ok (.ishr, 1) := by decide +kernel
theorem dX3_listMoves_69 : decode cX3_listMoves 69 = .ok (.iconst 1, 1) := by decide +kernel
theorem dX3_listMoves_70 : decode cX3_listMoves 70 = .ok (.iand, 1) := by decide +kernel
theorem dX3_listMoves_71 : decode cX3_listMoves 71 = .ok (.ifCond .eq 11, 3) := by decide +kernel
theorem dX3_listMoves_74 : decode cX3_listMoves 74 = .ok (.aload_n 0, 1) := by decide +kernel
theorem dX3_listMoves_75 : decode cX3_listMoves 75 = .ok (.aload_n 1, 1) := by decide +kernel
theorem dX3_listMoves_76 : decode cX3_listMoves 76 = .ok (.aload_n 2, 1) := by decide +kernel
theorem dX3_listMoves_77 : decode cX3_listMoves 77 = .ok (.iload 4, 2) := by decide +kernel
theorem dX3_listMoves_79 : decode cX3_listMoves 79 = .ok (.invokevirtual 45, 3) := by decide +kernel
theorem dX3_listMoves_82 : decode cX3_listMoves 82 = .ok (.iinc 4 1, 3) := by decide +kernel
theorem dX3_listMoves_85 : decode cX3_listMoves 85 = .ok (.goto (-27), 3) := by decide +kernel
theorem dX3_listMoves_88 : decode cX3_listMoves 88 = .ok (.return_, 1) := by decide +kernel
set_option maxRecDepth 20000 in
set_option maxRecDepth 100000 in
theorem ggX3_listSteps_X3_lastDirection : GoodIn wsX3_listSteps wsX3_lastDirection := goodIn_r _ [7, 8, 9, 10, 11, 12, 13, 14, 25, 26, 27, 28, 29] (by rfl) (by decide +kernel)
set_option maxRecDepth 20000 in
theorem gX3_listSteps_X3_lastDirection : GoodIn wsX3_listSteps (va_wsS RX3 55 yX3_lastDirection wsX3_lastDirection) := goodIn_app (goodIn_of _ (by decide +kernel)) ggX3_listSteps_X3_lastDirection
set_option maxRecDepth 20000 in
set_option maxRecDepth 100000 in
theorem ggX3_listSteps_X3_firstDirection : GoodIn wsX3_listSteps wsX3_firstDirection := goodIn_r _ [17, 8, 9, 10, 11, 12, 13, 14, 25, 26, 27, 28, 29] (by rfl) (by decide +kernel)
set_option maxRecDepth 20000 in
theorem gX3_listSteps_X3_firstDirection : GoodIn wsX3_listSteps (va_wsS RX3 59 yX3_firstDirection wsX3_firstDirection) := goodIn_app (goodIn_of _ (by decide +kernel)) ggX3_listSteps_X3_firstDirection
set_option maxRecDepth 20000 in
set_option maxRecDepth 100000 in
theorem ggX3_listSteps_X1_enter : GoodIn wsX3_listSteps wsX1_enter := goodIn_r _ [22, 23, 24, 32, 33] (by rfl) (by decide +kernel)
set_option maxRecDepth 20000 in
theorem gX3_listSteps_X1_enter : GoodIn wsX3_listSteps (wsV RX3 62 RX1 yX1_enter wsX1_enter) := goodIn_app (goodIn_of _ (by decide +kernel)) ggX3_listSteps_X1_enter
theorem dX3_listSteps_0 : decode cX3_listSteps 0 = .ok (.aload_n 1, 1) := by decide +kernel
theorem dX3_listSteps_1 : decode cX3_listSteps 1 = .ok (.getfield 49, 3) := by decide +kernel
theorem dX3_listSteps_4 : decode cX3_listSteps 4 = .ok (.aload_n 1, 1) := by decide +kernel
theorem dX3_listSteps_5 : decode cX3_listSteps 5 = .ok (.getfield 52, 3) := by decide +kernel
theorem dX3_listSteps_8 : decode cX3_listSteps 8 = .ok (.ior, 1) := by decide +kernel
theorem dX3_listSteps_9 : decode cX3_listSteps 9 = .ok (.istore 4, 2) := by decide +kernel
theorem dX3_listSteps_11 : decode cX3_listSteps 11 = .ok (.aload_n 1, 1) := by decide +kernel
theorem dX3_listSteps_12 : decode cX3_listSteps 12 = .ok (.iload_n 3, 1) := by decide +kernel
theorem dX3_listSteps_13 : decode cX3_listSteps 13 = .ok (.invokestatic 55, 3) := by decide +kernel
theorem dX3_listSteps_16 : decode cX3_listSteps 16 = .ok (.istore 5, 2) := by decide +kernel
theorem dX3_listSteps_18 : decode cX3_listSteps 18 = .ok (.aload_n 1, 1) := by decide +kernel
theorem dX3_listSteps_19 : decode cX3_listSteps 19 = .ok (.iload_n 3, 1) := by decide +kernel
theorem dX3_listSteps_20 : decode cX3_listSteps 20 = .ok (.invokestatic 59, 3) := by decide +kernel
theorem dX3_listSteps_23 : decode cX3_listSteps 23 = .ok (.istore 6, 2) := by decide +kernel
theorem dX3_listSteps_25 : decode cX3_listSteps 25 = .ok (.iload 6, 2) := by decide +kernel
theorem dX3_listSteps_27 : decode cX3_listSteps 27 = .ok (.iload 5, 2) := by decide +kernel
theorem dX3_listSteps_29 : decode cX3_listSteps 29 = .ok (.if_icmp .gt 46, 3) := by decide +kernel
theorem dX3_listSteps_32 : decode cX3_listSteps 32 = .ok (.aload_n 0, 1) := by decide +kernel
theorem dX3_listSteps_33 : decode cX3_listSteps 33 = .ok (.getfield 9, 3) := by decide +kernel
theorem dX3_listSteps_36 : decode cX3_listSteps 36 = .ok (.iload_n 3, 1) := by decide +kernel
theorem dX3_listSteps_37 : decode cX3_listSteps 37 = .ok (.iconst 4, 1) := by decide +kernel
theorem dX3_listSteps_38 : decode cX3_listSteps 38 = .ok (.imul, 1) := by decide +kernel
theorem dX3_listSteps_39 : decode cX3_listSteps 39 = .ok (.iload 6, 2) := by decide +kernel
theorem dX3_listSteps_41 : decode cX3_listSteps 41 = .ok (.iadd, 1) := by decide +kernel
theorem dX3_listSteps_42 : decode cX3_listSteps 42 = .ok (.iaload, 1) := by decide +kernel
theorem dX3_listSteps_43 : decode cX3_listSteps 43 = .ok (.istore 7, 2) := by decide +kernel
theorem dX3_listSteps_45 : decode cX3_listSteps 45 = .ok (.iload 7, 2) := by decide +kernel
theorem dX3_listSteps_47 : decode cX3_listSteps 47 = .ok (.iconst (-1), 1) := by decide +kernel
theorem dX3_listSteps_48 : decode cX3_listSteps 48 = .ok (.if_icmp .eq 21, 3) := by decide +kernel
theorem dX3_listSteps_51 : decode cX3_listSteps 51 = .ok (.iload 4, 2) := by decide +kernel
theorem dX3_listSteps_53 : decode cX3_listSteps 53 = .ok (.iload 7, 2) := by decide +kernel
theorem dX3_listSteps_55 : decode cX3_listSteps 55 = .ok (.ishr, 1) := by decide +kernel
theorem dX3_listSteps_56 : decode cX3_listSteps 56 = .ok (.iconst 1, 1) := by decide +kernel
theorem dX3_listSteps_57 : decode cX3_listSteps 57 = .ok (.iand, 1) := by decide +kernel
theorem dX3_listSteps_58 : decode cX3_listSteps 58 = .ok (.ifCond .ne 11, 3) := by decide +kernel
theorem dX3_listSteps_61 : decode cX3_listSteps 61 = .ok (.aload_n 2, 1) := by decide +kernel
theorem dX3_listSteps_62 : decode cX3_listSteps 62 = .ok (.iload_n 3, 1) := by decide +kernel
theorem dX3_listSteps_63 : decode cX3_listSteps 63 = .ok (.iload 7, 2) := by decide +kernel
theorem dX3_listSteps_65 : decode cX3_listSteps 65 = .ok (.iconst 0, 1) := by decide +kernel
theorem dX3_listSteps_66 : decode cX3_listSteps 66 = .ok (.invokevirtual 62, 3) := by decide +kernel
theorem dX3_listSteps_69 : decode cX3_listSteps 69 = .ok (.iinc 6 1, 3) := by decide +kernel
theorem dX3_listSteps_72 : decode cX3_listSteps 72 = .ok (.goto (-47), 3) := by decide +kernel
theorem dX3_listSteps_75 : decode cX3_listSteps 75 = .ok (.return_, 1) := by decide +kernel
set_option maxRecDepth 20000 in
set_option maxRecDepth 100000 in
theorem ggX3_leapOn_X2_others : GoodIn wsX3_leapOn wsX2_others := goodIn_r _ [9, 10, 11, 12, 36, 37, 38, 39, 40] (by rfl) (by decide +kernel)
set_option maxRecDepth 20000 in
theorem gX3_leapOn_X2_others : GoodIn wsX3_leapOn (wsV RX3 66 RX2 yX2_others wsX2_others) := goodIn_app (goodIn_of _ (by decide +kernel)) ggX3_leapOn_X2_others
set_option maxRecDepth 20000 in
set_option maxRecDepth 100000 in
theorem ggX3_leapOn_X3_lastDirection : GoodIn wsX3_leapOn wsX3_lastDirection := goodIn_r _ [16, 17, 18, 19, 20, 8, 21, 22, 36, 37, 38, 39, 40] (by rfl) (by decide +kernel)
set_option maxRecDepth 20000 in
theorem gX3_leapOn_X3_lastDirection : GoodIn wsX3_leapOn (va_wsS RX3 55 yX3_lastDirection wsX3_lastDirection) := goodIn_app (goodIn_of _ (by decide +kernel)) ggX3_leapOn_X3_lastDirection
set_option maxRecDepth 20000 in
set_option maxRecDepth 100000 in
theorem ggX3_leapOn_X3_firstDirection : GoodIn wsX3_leapOn wsX3_firstDirection := goodIn_r _ [25, 17, 18, 19, 20, 8, 21, 22, 36, 37, 38, 39, 40] (by rfl) (by decide +kernel)
set_option maxRecDepth 20000 in
theorem gX3_leapOn_X3_firstDirection : GoodIn wsX3_leapOn (va_wsS RX3 59 yX3_firstDirection wsX3_firstDirection) := goodIn_app (goodIn_of _ (by decide +kernel)) ggX3_leapOn_X3_firstDirection
set_option maxRecDepth 20000 in
set_option maxRecDepth 100000 in
theorem ggX3_leapOn_X3_leapOn : GoodIn wsX3_leapOn wsX3_leapOn := goodIn_r _ [0, 1, 2, 3, 4, 5, 6, 7, 8, 9, 10, 11, 12, 13, 14, 15, 16, 17, 18, 19, 20, 21, 22, 23, 24, 25, 26, 27, 28, 29, 30, 31, 32, 33, 34, 35, 36, 37, 38, 39, 40, 41, 42, 43, 44] (by rfl) (by decide +kernel)
set_option maxRecDepth 20000 in
theorem gX3_leapOn_X3_leapOn : GoodIn wsX3_leapOn (wsV RX3 41 RX3 yX3_leapOn wsX3_leapOn) := goodIn_app (goodIn_of _ (by decide +kernel)) ggX3_leapOn_X3_leapOn
set_option maxRecDepth 20000 in
set_option maxRecDepth 100000 in
theorem ggX3_leapOn_X1_enter : GoodIn wsX3_leapOn wsX1_enter := goodIn_r _ [33, 34, 35, 43, 44] (by rfl) (by decide +kernel)
set_option maxRecDepth 20000 in
theorem gX3_leapOn_X1_enter : GoodIn wsX3_leapOn (wsV RX3 62 RX1 yX1_enter wsX1_enter) := goodIn_app (goodIn_of _ (by decide +kernel)) ggX3_leapOn_X1_enter
theorem dX3_leapOn_0 : decode cX3_leapOn 0 = .ok (.aload_n 1, 1) := by decide +kernel
theorem dX3_leapOn_1 : decode cX3_leapOn 1 = .ok (.invokevirtual 66, 3) := by decide +kernel
theorem dX3_leapOn_4 : decode cX3_leapOn 4 = .ok (.iload 5, 2) := by decide +kernel
theorem dX3_leapOn_6 : decode cX3_leapOn 6 = .ok (.iconst (-1), 1) := by decide +kernel
theorem dX3_leapOn_7 : decode cX3_leapOn 7 = .ok (.ixor, 1) := by decide +kernel
theorem dX3_leapOn_8 : decode cX3_leapOn 8 = .ok (.iand, 1) := by decide +kernel
theorem dX3_leapOn_9 : decode cX3_leapOn 9 = .ok (.istore 7, 2) := by decide +kernel
theorem dX3_leapOn_11 : decode cX3_leapOn 11 = .ok (.aload_n 1, 1) := by decide +kernel
theorem dX3_leapOn_12 : decode cX3_leapOn 12 = .ok (.getfield 49, 3) := by decide +kernel
theorem dX3_leapOn_15 : decode cX3_leapOn 15 = .ok (.aload_n 1, 1) := by decide +kernel
theorem dX3_leapOn_16 : decode cX3_leapOn 16 = .ok (.getfield 52, 3) := by decide +kernel
theorem dX3_leapOn_19 : decode cX3_leapOn 19 = .ok (.ior, 1) := by decide +kernel
theorem dX3_leapOn_20 : decode cX3_leapOn 20 = .ok (.iconst 1, 1) := by decide +kernel
theorem dX3_leapOn_21 : decode cX3_leapOn 21 = .ok (.iload_n 3, 1) := by decide +kernel
theorem dX3_leapOn_22 : decode cX3_leapOn 22 = .ok (.ishl, 1) := by decide +kernel
theorem dX3_leapOn_23 : decode cX3_leapOn 23 = .ok (.iconst (-1), 1) := by decide +kernel
theorem dX3_leapOn_24 : decode cX3_leapOn 24 = .ok (.ixor, 1) := by decide +kernel
theorem dX3_leapOn_25 : decode cX3_leapOn 25 = .ok (.iand, 1) := by decide +kernel
theorem dX3_leapOn_26 : decode cX3_leapOn 26 = .ok (.istore 8, 2) := by decide +kernel
theorem dX3_leapOn_28 : decode cX3_leapOn 28 = .ok (.aload_n 1, 1) := by decide +kernel
theorem dX3_leapOn_29 : decode cX3_leapOn 29 = .ok (.iload_n 3, 1) := by decide +kernel
theorem dX3_leapOn_30 : decode cX3_leapOn 30 = .ok (.invokestatic 55, 3) := by decide +kernel
theorem dX3_leapOn_33 : decode cX3_leapOn 33 = .ok (.istore 9, 2) := by decide +kernel
theorem dX3_leapOn_35 : decode cX3_leapOn 35 = .ok (.iconst 1, 1) := by decide +kernel
theorem dX3_leapOn_36 : decode cX3_leapOn 36 = .ok (.istore 10, 2) := by decide +kernel
theorem dX3_leapOn_38 : decode cX3_leapOn 38 = .ok (.aload_n 1, 1) := by decide +kernel
theorem dX3_leapOn_39 : decode cX3_leapOn 39 = .ok (.iload_n 3, 1) := by decide +kernel
theorem dX3_leapOn_40 : decode cX3_leapOn 40 = .ok (.invokestatic 59, 3) := by decide +kernel
theorem dX3_leapOn_43 : decode cX3_leapOn 43 = .ok (.istore 11, 2) := by decide +kernel
theorem dX3_leapOn_45 : decode cX3_leapOn 45 = .ok (.iload 11, 2) := by decide +kernel
theorem dX3_leapOn_47 : decode cX3_leapOn 47 = .ok (.iload 9, 2) := by decide +kernel
theorem dX3_leapOn_49 : decode cX3_leapOn 49 = .ok (.if_icmp .gt 93, 3) := by decide +kernel
theorem dX3_leapOn_52 : decode cX3_leapOn 52 = .ok (.iload 6, 2) := by decide +kernel
theorem dX3_leapOn_54 : decode cX3_leapOn 54 = .ok (.bipush 18, 2) := by decide +kernel
theorem dX3_leapOn_56 : decode cX3_leapOn 56 = .ok (.if_icmp .ge 86, 3) := by decide +kernel
theorem dX3_leapOn_59 : decode cX3_leapOn 59 = .ok (.aload_n 0, 1) := by decide +kernel
theorem dX3_leapOn_60 : decode cX3_leapOn 60 = .ok (.getfield 9, 3) := by decide +kernel
theorem dX3_leapOn_63 : decode cX3_leapOn 63 = .ok (.iload 4, 2) := by decide +kernel
theorem dX3_leapOn_65 : decode cX3_leapOn 65 = .ok (.iconst 4, 1) := by decide +kernel
theorem dX3_leapOn_66 : decode cX3_leapOn 66 = .ok (.imul, 1) := by decide +kernel
theorem dX3_leapOn_67 : decode cX3_leapOn 67 = .ok (.iload 11, 2) := by decide +kernel
theorem dX3_leapOn_69 : decode cX3_leapOn 69 = .ok (.iadd, 1) := by decide +kernel
theorem dX3_leapOn_70 : decode cX3_leapOn 70 = .ok (.iaload, 1) := by decide +kernel
theorem dX3_leapOn_71 : decode cX3_leapOn 71 = .ok (.istore 12, 2) := by decide +kernel
theorem dX3_leapOn_73 : decode cX3_leapOn 73 = .ok (.aload_n 0, 1) := by decide +kernel
theorem dX3_leapOn_74 : decode cX3_leapOn 74 = .ok (.getfield 15, 3) := by decide +kernel
theorem dX3_leapOn_77 : decode cX3_leapOn 77 = .ok (.iload 4, 2) := by decide +kernel
theorem dX3_leapOn_79 : decode cX3_leapOn 79 = .ok (.iconst 4, 1) := by decide +kernel
theorem dX3_leapOn_80 : decode cX3_leapOn 80 = .ok (.imul, 1) := by decide +kernel
theorem dX3_leapOn_81 : decode cX3_leapOn 81 = .ok (.iload 11, 2) := by decide +kernel
theorem dX3_leapOn_83 : decode cX3_leapOn 83 = .ok (.iadd, 1) := by decide +kernel
theorem dX3_leapOn_84 : decode cX3_leapOn 84 = .ok (.iaload, 1) := by decide +kernel
theorem dX3_leapOn_85 : decode cX3_leapOn 85 = .ok (.istore 13, 2) := by decide +kernel
theorem dX3_leapOn_87 : decode cX3_leapOn 87 = .ok (.iload 13, 2) := by decide +kernel
theorem dX3_leapOn_89 : decode cX3_leapOn 89 = .ok (.iconst (-1), 1) := by decide +kernel
theorem dX3_leapOn_90 : decode cX3_leapOn 90 = .ok (.if_icmp .eq 46, 3) := by decide +kernel
theorem dX3_leapOn_93 : decode cX3_leapOn 93 = .ok (.iload 7, 2) := by decide +kernel
theorem dX3_leapOn_95 : decode cX3_leapOn 95 = .ok (.iload 12, 2) := by decide +kernel
theorem dX3_leapOn_97 : decode cX3_leapOn 97 = .ok (.ishr, 1) := by decide +kernel
theorem dX3_leapOn_98 : decode cX3_leapOn 98 = .ok (.iconst 1, 1) := by decide +kernel
theorem dX3_leapOn_99 : decode cX3_leapOn 99 = .ok (.iand, 1) := by decide +kernel
theorem dX3_leapOn_100 : decode cX3_leapOn 100 = .ok (.ifCond .eq 36, 3) := by decide +kernel
theorem dX3_leapOn_103 : decode cX3_leapOn 103 = .ok (.iload 8, 2) := by decide +kernel
theorem dX3_leapOn_105 : decode cX3_leapOn 105 = .ok (.iload 13, 2) := by decide +kernel
theorem dX3_leapOn_107 : decode cX3_leapOn 107 = .ok (.ishr, 1) := by decide +kernel
theorem dX3_leapOn_108 : decode cX3_leapOn 108 = .ok (.iconst 1, 1) := by decide +kernel
theorem dX3_leapOn_109 : decode cX3_leapOn 109 = .ok (.iand, 1) := by decide +kernel
theorem dX3_leapOn_110 : decode cX3_leapOn 110 = .ok (.ifCond .ne 26, 3) := by decide +kernel
theorem dX3_leapOn_113 : decode cX3_leapOn 113 = .ok (.iconst 0, 1) := by decide +kernel
theorem dX3_leapOn_114 : decode cX3_leapOn 114 = .ok (.istore 10, 2) := by decide +kernel
theorem dX3_leapOn_116 : decode cX3_leapOn 116 = .ok (.aload_n 0, 1) := by decide +kernel
theorem dX3_leapOn_117 : decode cX3_leapOn 117 = .ok (.aload_n 1, 1) := by decide +kernel
theorem dX3_leapOn_118 : decode cX3_leapOn 118 = .ok (.aload_n 2, 1) := by decide +kernel
theorem dX3_leapOn_119 : decode cX3_leapOn 119 = .ok (.iload_n 3, 1) := by decide +kernel
theorem dX3_leapOn_120 : decode cX3_leapOn 120 = .ok (.iload 13, 2) := by decide +kernel
theorem dX3_leapOn_122 : decode cX3_leapOn 122 = .ok (.iload 5, 2) := by decide +kernel
theorem dX3_leapOn_124 : decode cX3_leapOn 124 = .ok (.iconst 1, 1) := by decide +kernel
theorem dX3_leapOn_125 : decode cX3_leapOn 125 = .ok (.iload 12, 2) := by decide +kernel
theorem dX3_leapOn_127 : decode cX3_leapOn 127 = .ok (.ishl, 1) := by decide +kernel
theorem dX3_leapOn_128 : decode cX3_leapOn 128 = .ok (.ior, 1) := by decide +kernel
theorem dX3_leapOn_129 : decode cX3_leapOn 129 = .ok (.iload 6, 2) := by decide +kernel
theorem dX3_leapOn_131 : decode cX3_leapOn 131 = .ok (.iconst 1, 1) := by decide +kernel
theorem dX3_leapOn_132 : decode cX3_leapOn 132 = .ok (.iadd, 1) := by decide +kernel
theorem dX3_leapOn_133 : decode cX3_leapOn 133 = .ok (.invokevirtual 41, 3) := by decide +kernel
theorem dX3_leapOn_136 : decode cX3_leapOn 136 = .ok (.iinc 11 1, 3) := by decide +kernel
theorem dX3_leapOn_139 : decode cX3_leapOn 139 = .ok (.goto (-94), 3) := by decide +kernel
theorem dX3_leapOn_142 : decode cX3_leapOn 142 = .ok (.iload 10, 2) := by decide +kernel
theorem dX3_leapOn_144 : decode cX3_leapOn 144 = .ok (.ifCond .eq 17, 3) := by decide +kernel
theorem dX3_leapOn_147 : decode cX3_leapOn 147 = .ok (.iload 5, 2) := by decide +kernel
theorem dX3_leapOn_149 : decode cX3_leapOn 149 = .ok (.ifCond .eq 12, 3) := by decide +kernel
theorem dX3_leapOn_152 : decode cX3_leapOn 152 = .ok (.aload_n 2, 1) := by decide +kernel
theorem dX3_leapOn_153 : decode cX3_leapOn 153 = .ok (.iload_n 3, 1) := by decide +kernel
theorem dX3_leapOn_154 : decode cX3_leapOn 154 = .ok (.iload 4, 2) := by decide +kernel
theorem dX3_leapOn_156 : decode cX3_leapOn 156 = .ok (.iload 5, 2) := by decide +kernel
theorem dX3_leapOn_158 : decode cX3_leapOn 158 = .ok (.invokevirtual 62, 3) := by decide +kernel
theorem dX3_leapOn_161 : decode cX3_leapOn 161 = .ok (.return_, 1) := by decide +kernel
set_option maxRecDepth 20000 in
set_option maxRecDepth 100000 in
theorem ggX3_canMove_X2_own : GoodIn wsX3_canMove wsX2_own := goodIn_r _ [5, 6, 7, 8, 34, 35, 36, 37, 38] (by rfl) (by decide +kernel)
set_option maxRecDepth 20000 in
theorem gX3_canMove_X2_own : GoodIn wsX3_canMove (wsV RX3 37 RX2 yX2_own wsX2_own) := goodIn_app (goodIn_of _ (by decide +kernel)) ggX3_canMove_X2_own
set_option maxRecDepth 20000 in
set_option maxRecDepth 100000 in
theorem ggX3_canMove_X3_canLeave : GoodIn wsX3_canMove wsX3_canLeave := goodIn_r _ [13, 14, 15, 16, 17, 18, 19, 20, 4, 21, 6, 8, 7, 22, 23, 12, 24, 25, 26, 27, 28, 29, 30, 31, 32, 33, 34, 35, 36, 37, 38, 39, 40] (by rfl) (by decide +kernel)
set_option maxRecDepth 20000 in
theorem gX3_canMove_X3_canLeave : GoodIn wsX3_canMove (wsV RX3 69 RX3 yX3_canLeave wsX3_canLeave) := goodIn_app (goodIn_of _ (by decide +kernel)) ggX3_canMove_X3_canLeave
theorem dX3_canMove_0 : decode cX3_canMove 0 = .ok (.aload_n 1, 1) := by decide +kernel
theorem dX3_canMove_1 : decode cX3_canMove 1 = .ok (.invokevirtual 37, 3) := by decide +kernel
theorem dX3_canMove_4 : decode cX3_canMove 4 = .ok (.istore_n 2, 1) := by decide +kernel
theorem dX3_canMove_5 : decode cX3_canMove 5 = .ok (.iconst 0, 1) := by decide +kernel
theorem dX3_canMove_6 : decode cX3_canMove 6 = .ok (.istore_n 3, 1) := by decide +kernel
theorem dX3_canMove_7 : decode cX3_canMove 7 = .ok (.iload_n 3, 1) := by decide +kernel
theorem dX3_canMove_8 : decode cX3_canMove 8 = .ok (.bipush 18, 2) := by decide +kernel
theorem dX3_canMove_10 : decode cX3_canMove 10 = .ok (.if_icmp .ge 28, 3) := by decide +kernel
theorem dX3_canMove_13 : decode cX3_canMove 13 = .ok (.iload_n 2, 1) := by decide +kernel
theorem dX3_canMove_14 : decode cX3_canMove 14 = .ok (.iload_n 3, 1) := by decide +kernel
theorem dX3_canMove_15 : decode cX3_canMove 15 = .ok (.ishr, 1) := by decide +kernel
theorem dX3_canMove_16 : decode cX3_canMove 16 = .ok (.iconst 1, 1) := by decide +kernel
theorem dX3_canMove_17 : decode cX3_canMove 17 = .ok (.iand, 1) := by decide +kernel
theorem dX3_canMove_18 : decode cX3_canMove 18 = .ok (.ifCond .eq 14, 3) := by decide +kernel
theorem dX3_canMove_21 : decode cX3_canMove 21 = .ok (.aload_n 0, 1) := by decide +kernel
theorem dX3_canMove_22 : decode cX3_canMove 22 = .ok (.aload_n 1, 1) := by decide +kernel
theorem dX3_canMove_23 : decode cX3_canMove 23 = .ok (.iload_n 3, 1) := by decide +kernel
theorem dX3_canMove_24 : decode cX3_canMove 24 = .ok (.invokevirtual 69, 3) := by decide +kernel
theorem dX3_canMove_27 : decode cX3_canMove 27 = .ok (.ifCond .eq 5, 3) := by decide +kernel
theorem dX3_canMove_30 : decode cX3_canMove 30 = .ok (.iconst 1, 1) := by decide +kernel
theorem dX3_canMove_31 : decode cX3_canMove 31 = .ok (.ireturn, 1) := by decide +kernel
theorem dX3_canMove_32 : decode cX3_canMove 32 = .ok (.iinc 3 1, 3) := by decide +kernel
theorem dX3_canMove_35 : decode cX3_canMove 35 = .ok (.goto (-28), 3) := by decide +kernel
theorem dX3_canMove_38 : decode cX3_canMove 38 = .ok (.iconst 0, 1) := by decide +kernel
theorem dX3_canMove_39 : decode cX3_canMove 39 = .ok (.ireturn, 1) := by decide +kernel
set_option maxRecDepth 20000 in
set_option maxRecDepth 100000 in
theorem ggX3_canLeave_X2_others : GoodIn wsX3_canLeave wsX2_others := goodIn_r _ [9, 10, 11, 12, 26, 27, 28, 29, 30] (by rfl) (by decide +kernel)
set_option maxRecDepth 20000 in
theorem gX3_canLeave_X2_others : GoodIn wsX3_canLeave (wsV RX3 66 RX2 yX2_others wsX2_others) := goodIn_app (goodIn_of _ (by decide +kernel)) ggX3_canLeave_X2_others
set_option maxRecDepth 20000 in
set_option maxRecDepth 100000 in
theorem ggX3_canLeave_X3_lastDirection : GoodIn wsX3_canLeave wsX3_lastDirection := goodIn_r _ [16, 17, 18, 19, 20, 8, 21, 22, 26, 27, 28, 29, 30] (by rfl) (by decide +kernel)
set_option maxRecDepth 20000 in
theorem gX3_canLeave_X3_lastDirection : GoodIn wsX3_canLeave (va_wsS RX3 55 yX3_lastDirection wsX3_lastDirection) := goodIn_app (goodIn_of _ (by decide +kernel)) ggX3_canLeave_X3_lastDirection
set_option maxRecDepth 20000 in
set_option maxRecDepth 100000 in
theorem ggX3_canLeave_X3_firstDirection : GoodIn wsX3_canLeave wsX3_firstDirection := goodIn_r _ [25, 17, 18, 19, 20, 8, 21, 22, 26, 27, 28, 29, 30] (by rfl) (by decide +kernel)
set_option maxRecDepth 20000 in
theorem gX3_canLeave_X3_firstDirection : GoodIn wsX3_canLeave (va_wsS RX3 59 yX3_firstDirection wsX3_firstDirection) := goodIn_app (goodIn_of _ (by decide +kernel)) ggX3_canLeave_X3_firstDirection
theorem dX3_canLeave_0 : decode cX3_canLeave 0 = .ok (.aload_n 1, 1) := by decide +kernel
theorem dX3_canLeave_1 : decode cX3_canLeave 1 = .ok (.invokevirtual 66, 3) := by decide +kernel
theorem dX3_canLeave_4 : decode cX3_canLeave 4 = .ok (.istore_n 3, 1) := by decide +kernel
theorem dX3_canLeave_5 : decode cX3_canLeave 5 = .ok (.aload_n 1, 1) := by decide +kernel
theorem dX3_canLeave_6 : decode cX3_canLeave 6 = .ok (.getfield 49, 3) := by decide +kernel
theorem dX3_canLeave_9 : decode cX3_canLeave 9 = .ok (.aload_n 1, 1) := by decide +kernel
theorem dX3_canLeave_10 : decode cX3_canLeave 10 = .ok (.getfield 52, 3) := by decide +kernel
theorem dX3_canLeave_13 : decode cX3_canLeave 13 = .ok (.ior, 1) := by decide +kernel
theorem dX3_canLeave_14 : decode cX3_canLeave 14 = .ok (.istore 4, 2) := by decide +kernel
theorem dX3_canLeave_16 : decode cX3_canLeave 16 = .ok (.aload_n 1, 1) := by decide +kernel
theorem dX3_canLeave_17 : decode cX3_canLeave 17 = .ok (.iload_n 2, 1) := by decide +kernel
theorem dX3_canLeave_18 : decode cX3_canLeave 18 = .ok (.invokestatic 55, 3) := by decide +kernel
theorem dX3_canLeave_21 : decode cX3_canLeave 21 = .ok (.istore 5, 2) := by decide +kernel
theorem dX3_canLeave_23 : decode cX3_canLeave 23 = .ok (.aload_n 1, 1) := by decide +kernel
theorem dX3_canLeave_24 : decode cX3_canLeave 24 = .ok (.iload_n 2, 1) := by decide +kernel
theorem dX3_canLeave_25 : decode cX3_canLeave 25 = .ok (.invokestatic 59, 3) := by decide +kernel
theorem dX3_canLeave_28 : decode cX3_canLeave 28 = .ok (.istore 6, 2) := by decide +kernel
theorem dX3_canLeave_30 : decode cX3_canLeave 30 = .ok (.iload 6, 2) := by decide +kernel
theorem dX3_canLeave_32 : decode cX3_canLeave 32 = .ok (.iload 5, 2) := by decide +kernel
theorem dX3_canLeave_34 : decode cX3_canLeave 34 = .ok (.if_icmp .gt 68, 3) := by decide +kernel
theorem dX3_canLeave_37 : decode cX3_canLeave 37 = .ok (.aload_n 0, 1) := by decide +kernel
theorem dX3_canLeave_38 : decode cX3_canLeave 38 = .ok (.getfield 9, 3) := by decide +kernel
theorem dX3_canLeave_41 : decode cX3_canLeave 41 = .ok (.iload_n 2, 1) := by decide +kernel
theorem dX3_canLeave_42 : decode cX3_canLeave 42 = .ok (.iconst 4, 1) := by decide +kernel
theorem dX3_canLeave_43 : decode cX3_canLeave 43 = .ok (.imul, 1) := by decide +kernel
theorem dX3_canLeave_44 : decode cX3_canLeave 44 = .ok (.iload 6, 2) := by decide +kernel
theorem dX3_canLeave_46 : decode cX3_canLeave 46 = .ok (.iadd, 1) := by decide +kernel
theorem dX3_canLeave_47 : decode cX3_canLeave 47 = .ok (.iaload, 1) := by decide +kernel
theorem dX3_canLeave_48 : decode cX3_canLeave 48 = .ok (.istore 7, 2) := by decide +kernel
theorem dX3_canLeave_50 : decode cX3_canLeave 50 = .ok (.iload 7, 2) := by decide +kernel
theorem dX3_canLeave_52 : decode cX3_canLeave 52 = .ok (.iconst (-1), 1) := by decide +kernel
theorem dX3_canLeave_53 : decode cX3_canLeave 53 = .ok (.if_icmp .eq 25, 3) := by decide +kernel
theorem dX3_canLeave_56 : decode cX3_canLeave 56 = .ok (.iload_n 3, 1) := by decide +kernel
theorem dX3_canLeave_57 : decode cX3_canLeave 57 = .ok (.iload 7, 2) := by decide +kernel
theorem dX3_canLeave_59 : decode cX3_canLeave 59 = .ok (.ishr, 1) := by decide +kernel
theorem dX3_canLeave_60 : decode cX3_canLeave 60 = .ok (.iconst 1, 1) := by decide +kernel
theorem dX3_canLeave_61 : decode cX3_canLeave 61 = .ok (.iand, 1) := by decide +kernel
theorem dX3_canLeave_62 : decode cX3_canLeave 62 = .ok (.ifCond .eq 16, 3) := by decide +kernel
theorem dX3_canLeave_65 : decode cX3_canLeave 65 = .ok (.aload_n 0, 1) := by decide +kernel
theorem dX3_canLeave_66 : decode cX3_canLeave 66 = .ok (.getfield 15, 3) := by decide +kernel
theorem dX3_canLeave_69 : decode cX3_canLeave 69 = .ok (.iload_n 2, 1) := by decide +kernel
theorem dX3_canLeave_70 : decode cX3_canLeave 70 = .ok (.iconst 4, 1) := by decide +kernel
theorem dX3_canLeave_71 : decode cX3_canLeave 71 = .ok (.imul, 1) := by decide +kernel
theorem dX3_canLeave_72 : decode cX3_canLeave 72 = .ok (.iload 6, 2) := by decide +kernel
theorem dX3_canLeave_74 : decode cX3_canLeave 74 = .ok (.iadd, 1) := by decide +kernel
theorem dX3_canLeave_75 : decode cX3_canLeave 75 = .ok (.iaload, 1) := by decide +kernel
theorem dX3_canLeave_76 : decode cX3_canLeave 76 = .ok (.istore 7, 2) := by decide +kernel
theorem dX3_canLeave_78 : decode cX3_canLeave 78 = .ok (.iload 7, 2) := by decide +kernel
theorem dX3_canLeave_80 : decode cX3_canLeave 80 = .ok (.iconst (-1), 1) := by decide +kernel
theorem dX3_canLeave_81 : decode cX3_canLeave 81 = .ok (.if_icmp .eq 15, 3) := by decide +kernel
theorem dX3_canLeave_84 : decode cX3_canLeave 84 = .ok (.iload 4, 2) := by decide +kernel
theorem dX3_canLeave_86 : decode cX3_canLeave 86 = .ok (.iload 7, 2) := by decide +kernel
theorem dX3_canLeave_88 : decode cX3_canLeave 88 = .ok (.ishr, 1) := by decide +kernel
theorem dX3_canLeave_89 : decode cX3_canLeave 89 = .ok (.iconst 1, 1) := by decide +kernel
theorem dX3_canLeave_90 : decode cX3_canLeave 90 = .ok (.iand, 1) := by decide +kernel
theorem dX3_canLeave_91 : decode cX3_canLeave 91 = .ok (.ifCond .ne 5, 3) := by decide +kernel
theorem dX3_canLeave_94 : decode cX3_canLeave 94 = .ok (.iconst 1, 1) := by decide +kernel
theorem dX3_canLeave_95 : decode cX3_canLeave 95 = .ok (.ireturn, 1) := by decide +kernel
theorem dX3_canLeave_96 : decode cX3_canLeave 96 = .ok (.iinc 6 1, 3) := by decide +kernel
theorem dX3_canLeave_99 : decode cX3_canLeave 99 = .ok (.goto (-69), 3) := by decide +kernel
theorem dX3_canLeave_102 : decode cX3_canLeave 102 = .ok (.iconst 0, 1) := by decide +kernel
theorem dX3_canLeave_103 : decode cX3_canLeave 103 = .ok (.ireturn, 1) := by decide +kernel
set_option maxRecDepth 20000 in
set_option maxRecDepth 100000 in
theorem ggX4_init_X3_init : GoodIn wsX4_init wsX3_init := goodIn_r _ [23, 24, 2, 3, 25, 26, 27, 28, 29, 6, 30, 52, 53] (by rfl) (by decide +kernel)
set_option maxRecDepth 20000 in
theorem gX4_init_X3_init : GoodIn wsX4_init (wsX3_init) := ggX4_init_X3_init
set_option maxRecDepth 20000 in
set_option maxRecDepth 100000 in
theorem ggX4_init_X1_init : GoodIn wsX4_init wsX1_init := goodIn_r _ [32, 33, 2, 3, 25, 34, 62, 63] (by rfl) (by decide +kernel)
set_option maxRecDepth 20000 in
theorem gX4_init_X1_init_n32 : GoodIn wsX4_init (wsX1_init) := ggX4_init_X1_init
set_option maxRecDepth 20000 in
set_option maxRecDepth 100000 in
theorem ggX4_init_X2_init : GoodIn wsX4_init wsX2_init := goodIn_r _ [36, 37, 2, 3] (by rfl) (by decide +kernel)
set_option maxRecDepth 20000 in
theorem gX4_init_X2_init_n37 : GoodIn wsX4_init (wsX2_init) := ggX4_init_X2_init
set_option maxRecDepth 20000 in
set_option maxRecDepth 100000 in
theorem ggX4_init_X2_setUp : GoodIn wsX4_init wsX2_setUp := goodIn_r _ [41, 42, 43, 44, 45, 46, 47, 17, 48, 49, 50, 51, 64, 65, 66, 67, 68] (by rfl) (by decide +kernel)
set_option maxRecDepth 20000 in
theorem gX4_init_X2_setUp : GoodIn wsX4_init (wsV RX4 49 RX2 yX2_setUp wsX2_setUp) := goodIn_app (goodIn_of _ (by decide +kernel)) ggX4_init_X2_setUp
theorem dX4_init_0 : decode cX4_init 0 = .ok (.aload_n 0, 1) := by decide +kernel
theorem dX4_init_1 : decode cX4_init 1 = .ok (.invokespecial 1, 3) := by decide +kernel
theorem dX4_init_4 : decode cX4_init 4 = .ok (.aload_n 0, 1) := by decide +kernel
theorem dX4_init_5 : decode cX4_init 5 = .ok (.new 7, 3) := by decide +kernel
theorem dX4_init_8 : decode cX4_init 8 = .ok (.dup, 1) := by decide +kernel
theorem dX4_init_9 : decode cX4_init 9 = .ok (.invokespecial 9, 3) := by decide +kernel
theorem dX4_init_12 : decode cX4_init 12 = .ok (.putfield 10, 3) := by decide +kernel
theorem dX4_init_15 : decode cX4_init 15 = .ok (.aload_n 0, 1) := by decide +kernel
theorem dX4_init_16 : decode cX4_init 16 = .ok (.aconst_null, 1) := by decide +kernel
theorem dX4_init_17 : decode cX4_init 17 = .ok (.putfield 16, 3) := by decide +kernel
theorem dX4_init_20 : decode cX4_init 20 = .ok (.aload_n 0, 1) := by decide +kernel
theorem dX4_init_21 : decode cX4_init 21 = .ok (.bipush 101, 2) := by decide +kernel
theorem dX4_init_23 : decode cX4_init 23 = .ok (.anewarray 20, 3) := by decide +kernel
theorem dX4_init_26 : decode cX4_init 26 = .ok (.putfield 22, 3) := by decide +kernel
theorem dX4_init_29 : decode cX4_init 29 = .ok (.aload_n 0, 1) := by decide +kernel
theorem dX4_init_30 : decode cX4_init 30 = .ok (.iconst 0, 1) := by decide +kernel
theorem dX4_init_31 : decode cX4_init 31 = .ok (.putfield 26, 3) := by decide +kernel
theorem dX4_init_34 : decode cX4_init 34 = .ok (.aload_n 0, 1) := by decide +kernel
theorem dX4_init_35 : decode cX4_init 35 = .ok (.new 30, 3) := by decide +kernel
theorem dX4_init_38 : decode cX4_init 38 = .ok (.dup, 1) := by decide +kernel
theorem dX4_init_39 : decode cX4_init 39 = .ok (.invokespecial 32, 3) := by decide +kernel
theorem dX4_init_42 : decode cX4_init 42 = .ok (.putfield 33, 3) := by decide +kernel
theorem dX4_init_45 : decode cX4_init 45 = .ok (.aload_n 0, 1) := by decide +kernel
theorem dX4_init_46 : decode cX4_init 46 = .ok (.new 20, 3) := by decide +kernel
theorem dX4_init_49 : decode cX4_init 49 = .ok (.dup, 1) := by decide +kernel
theorem dX4_init_50 : decode cX4_init 50 = .ok (.invokespecial 37, 3) := by decide +kernel
theorem dX4_init_53 : decode cX4_init 53 = .ok (.putfield 38, 3) := by decide +kernel
theorem dX4_init_56 : decode cX4_init 56 = .ok (.aload_n 0, 1) := by decide +kernel
theorem dX4_init_57 : decode cX4_init 57 = .ok (.iconst 5, 1) := by decide +kernel
theorem dX4_init_58 : decode cX4_init 58 = .ok (.anewarray 30, 3) := by decide +kernel
theorem dX4_init_61 : decode cX4_init 61 = .ok (.putfield 42, 3) := by decide +kernel
theorem dX4_init_64 : decode cX4_init 64 = .ok (.aload_n 0, 1) := by decide +kernel
theorem dX4_init_65 : decode cX4_init 65 = .ok (.iconst 5, 1) := by decide +kernel
theorem dX4_init_66 : decode cX4_init 66 = .ok (.anewarray 20, 3) := by decide +kernel
theorem dX4_init_69 : decode cX4_init 69 = .ok (.putfield 46, 3) := by decide +kernel
theorem dX4_init_72 : decode cX4_init 72 = .ok (.iconst 0, 1) := by decide +kernel
theorem dX4_init_73 : decode cX4_init 73 = .ok (.istore_n 1, 1) := by decide +kernel
theorem dX4_init_74 : decode cX4_init 74 = .ok (.iload_n 1, 1) := by decide +kernel
theorem dX4_init_75 : decode cX4_init 75 = .ok (.bipush 100, 2) := by decide +kernel
theorem dX4_init_77 : decode cX4_init 77 = .ok (.if_icmp .gt 22, 3) := by decide +kernel
theorem dX4_init_80 : decode cX4_init 80 = .ok (.aload_n 0, 1) := by decide +kernel
theorem dX4_init_81 : decode cX4_init 81 = .ok (.getfield 22, 3) := by decide +kernel
theorem dX4_init_84 : decode cX4_init 84 = .ok (.iload_n 1, 1) := by decide +kernel
theorem dX4_init_85 : decode cX4_init 85 = .ok (.new 20, 3) := by decide +kernel
theorem dX4_init_88 : decode cX4_init 88 = .ok (.dup, 1) := by decide +kernel
theorem dX4_init_89 : decode cX4_init 89 = .ok (.invokespecial 37, 3) := by decide +kernel
theorem dX4_init_92 : decode cX4_init 92 = .ok (.aastore, 1) := by decide +kernel
theorem dX4_init_93 : decode cX4_init 93 = .ok (.iinc 1 1, 3) := by decide +kernel
theorem dX4_init_96 : decode cX4_init 96 = .ok (.goto (-22), 3) := by decide +kernel
theorem dX4_init_99 : decode cX4_init 99 = .ok (.iconst 0, 1) := by decide +kernel
theorem dX4_init_100 : decode cX4_init 100 = .ok (.istore_n 1, 1) := by decide +kernel
theorem dX4_init_101 : decode cX4_init 101 = .ok (.iload_n 1, 1) := by decide +kernel
theorem dX4_init_102 : decode cX4_init 102 = .ok (.iconst 4, 1) := by decide +kernel
theorem dX4_init_103 : decode cX4_init 103 = .ok (.if_icmp .gt 35, 3) := by decide +kernel
theorem dX4_init_106 : decode cX4_init 106 = .ok (.aload_n 0, 1) := by decide +kernel
theorem dX4_init_107 : decode cX4_init 107 = .ok (.getfield 42, 3) := by decide +kernel
theorem dX4_init_110 : decode cX4_init 110 = .ok (.iload_n 1, 1) := by decide +kernel
theorem dX4_init_111 : decode cX4_init 111 = .ok (.new 30, 3) := by decide +kernel
theorem dX4_init_114 : decode cX4_init 114 = .ok (.dup, 1) := by decide +kernel
theorem dX4_init_115 : decode cX4_init 115 = .ok (.invokespecial 32, 3) := by decide +kernel
theorem dX4_init_118 : decode cX4_init 118 = .ok (.aastore, 1) := by decide +kernel
theorem dX4_init_119 : decode cX4_init 119 = .ok (.aload_n 0, 1) := by decide +kernel
theorem dX4_init_120 : decode cX4_init 120 = .ok (.getfield 46, 3) := by decide +kernel
theorem dX4_init_123 : decode cX4_init 123 = .ok (.iload_n 1, 1) := by decide +kernel
theorem dX4_init_124 : decode cX4_init 124 = .ok (.new 20, 3) := by decide +kernel
theorem dX4_init_127 : decode cX4_init 127 = .ok (.dup, 1) := by decide +kernel
theorem dX4_init_128 : decode cX4_init 128 = .ok (.invokespecial 37, 3) := by decide +kernel
theorem dX4_init_131 : decode cX4_init 131 = .ok (.aastore, 1) := by decide +kernel
theorem dX4_init_132 : decode cX4_init 132 = .ok (.iinc 1 1, 3) := by decide +kernel
theorem dX4_init_135 : decode cX4_init 135 = .ok (.goto (-34), 3) := by decide +kernel
theorem dX4_init_138 : decode cX4_init 138 = .ok (.aload_n 0, 1) := by decide +kernel
theorem dX4_init_139 : decode cX4_init 139 = .ok (.getfield 22, 3) := by decide +kernel
theorem dX4_init_142 : decode cX4_init 142 = .ok (.iconst 0, 1) := by decide +kernel
theorem dX4_init_143 : decode cX4_init 143 = .ok (.aaload, 1) := by decide +kernel
theorem dX4_init_144 : decode cX4_init 144 = .ok (.invokevirtual 49, 3) := by decide +kernel
theorem dX4_init_147 : decode cX4_init 147 = .ok (.return_, 1) := by decide +kernel
set_option maxRecDepth 20000 in
set_option maxRecDepth 100000 in
theorem ggX4_begin_X2_setUp : GoodIn wsX4_begin wsX2_setUp := goodIn_r _ [7, 8, 9, 10, 11, 12, 13, 6, 14, 15, 16, 17, 26, 27, 28, 29, 30] (by rfl) (by decide +kernel)
set_option maxRecDepth 20000 in
theorem gX4_begin_X2_setUp : GoodIn wsX4_begin (wsV RX4 49 RX2 yX2_setUp wsX2_setUp) := goodIn_app (goodIn_of _ (by decide +kernel)) ggX4_begin_X2_setUp
theorem dX4_begin_0 : decode cX4_begin 0 = .ok (.aload_n 0, 1) := by decide +kernel
theorem dX4_begin_1 : decode cX4_begin 1 = .ok (.iconst 0, 1) := by decide +kernel
theorem dX4_begin_2 : decode cX4_begin 2 = .ok (.putfield 26, 3) := by decide +kernel
theorem dX4_begin_5 : decode cX4_begin 5 = .ok (.aload_n 0, 1) := by decide +kernel
theorem dX4_begin_6 : decode cX4_begin 6 = .ok (.getfield 22, 3) := by decide +kernel
theorem dX4_begin_9 : decode cX4_begin 9 = .ok (.iconst 0, 1) := by decide +kernel
theorem dX4_begin_10 : decode cX4_begin 10 = .ok (.aaload, 1) := by decide +kernel
theorem dX4_begin_11 : decode cX4_begin 11 = .ok (.invokevirtual 49, 3) := by decide +kernel
theorem dX4_begin_14 : decode cX4_begin 14 = .ok (.return_, 1) := by decide +kernel
set_option maxRecDepth 20000 in
set_option maxRecDepth 100000 in
theorem ggX4_clear_X2_wipe : GoodIn wsX4_clear wsX2_wipe := goodIn_r _ [7, 8, 9, 10, 11, 12, 21, 22, 23, 24, 25] (by rfl) (by decide +kernel)
set_option maxRecDepth 20000 in
theorem gX4_clear_X2_wipe : GoodIn wsX4_clear (wsV RX4 52 RX2 yX2_wipe wsX2_wipe) := goodIn_app (goodIn_of _ (by decide +kernel)) ggX4_clear_X2_wipe
theorem dX4_clear_0 : decode cX4_clear 0 = .ok (.aload_n 0, 1) := by decide +kernel
theorem dX4_clear_1 : decode cX4_clear 1 = .ok (.iconst 0, 1) := by decide +kernel
theorem dX4_clear_2 : decode cX4_clear 2 = .ok (.putfield 26, 3) := by decide +kernel
theorem dX4_clear_5 : decode cX4_clear 5 = .ok (.aload_n 0, 1) := by decide +kernel
theorem dX4_clear_6 : decode cX4_clear 6 = .ok (.getfield 22, 3) := by decide +kernel
theorem dX4_clear_9 : decode cX4_clear 9 = .ok (.iconst 0, 1) := by decide +kernel
theorem dX4_clear_10 : decode cX4_clear 10 = .ok (.aaload, 1) := by decide +kernel
theorem dX4_clear_11 : decode cX4_clear 11 = .ok (.invokevirtual 52, 3) := by decide +kernel
theorem dX4_clear_14 : decode cX4_clear 14 = .ok (.return_, 1) := by decide +kernel
set_option maxRecDepth 20000 in
set_option maxRecDepth 100000 in
theorem ggX4_put_X4_isSquare : GoodIn wsX4_put wsX4_isSquare := goodIn_r _ [6] (by rfl) (by decide +kernel)
set_option maxRecDepth 20000 in
theorem gX4_put_X4_isSquare : GoodIn wsX4_put (va_wsS RX4 55 yX4_isSquare wsX4_isSquare) := goodIn_app (goodIn_of _ (by decide +kernel)) ggX4_put_X4_isSquare
set_option maxRecDepth 20000 in
set_option maxRecDepth 100000 in
theorem ggX4_put_X4_forgetGame : GoodIn wsX4_put wsX4_forgetGame := goodIn_r _ [10, 2, 11, 12, 13, 14, 15, 16, 17, 18, 19, 20, 21, 22, 27, 28, 29, 30, 31, 32, 33, 34, 35, 36, 37, 38, 39] (by rfl) (by decide +kernel)
set_option maxRecDepth 20000 in
theorem gX4_put_X4_forgetGame : GoodIn wsX4_put (wsV RX4 60 RX4 yX4_forgetGame wsX4_forgetGame) := goodIn_app (goodIn_of _ (by decide +kernel)) ggX4_put_X4_forgetGame
set_option maxRecDepth 20000 in
set_option maxRecDepth 100000 in
theorem ggX4_put_X2_place : GoodIn wsX4_put wsX2_place := goodIn_r _ [26, 18, 19, 20, 35, 36, 37, 38, 39] (by rfl) (by decide +kernel)
set_option maxRecDepth 20000 in
theorem gX4_put_X2_place : GoodIn wsX4_put (wsV RX4 63 RX2 yX2_place wsX2_place) := goodIn_app (goodIn_of _ (by decide +kernel)) ggX4_put_X2_place
theorem dX4_put_0 : decode cX4_put 0 = .ok (.iload_n 1, 1) := by decide +kernel
theorem dX4_put_1 : decode cX4_put 1 = .ok (.invokestatic 55, 3) := by decide +kernel
theorem dX4_put_4 : decode cX4_put 4 = .ok (.ifCond .eq 12, 3) := by decide +kernel
theorem dX4_put_7 : decode cX4_put 7 = .ok (.iload_n 2, 1) := by decide +kernel
theorem dX4_put_8 : decode cX4_put 8 = .ok (.ifCond .lt 8, 3) := by decide +kernel
theorem dX4_put_11 : decode cX4_put 11 = .ok (.iload_n 2, 1) := by decide +kernel
theorem dX4_put_12 : decode cX4_put 12 = .ok (.iconst 4, 1) := by decide +kernel
theorem dX4_put_13 : decode cX4_put 13 = .ok (.if_icmp .le 5, 3) := by decide +kernel
theorem dX4_put_16 : decode cX4_put 16 = .ok (.iconst 0, 1) := by decide +kernel
theorem dX4_put_17 : decode cX4_put 17 = .ok (.ireturn, 1) := by decide +kernel
theorem dX4_put_18 : decode cX4_put 18 = .ok (.iconst 1, 1) := by decide +kernel
theorem dX4_put_19 : decode cX4_put 19 = .ok (.iload_n 1, 1) := by decide +kernel
theorem dX4_put_20 : decode cX4_put 20 = .ok (.ishl, 1) := by decide +kernel
theorem dX4_put_21 : decode cX4_put 21 = .ok (.istore_n 3, 1) := by decide +kernel
theorem dX4_put_22 : decode cX4_put 22 = .ok (.iload_n 2, 1) := by decide +kernel
theorem dX4_put_23 : decode cX4_put 23 = .ok (.iconst 1, 1) := by decide +kernel
theorem dX4_put_24 : decode cX4_put 24 = .ok (.if_icmp .ne 12, 3) := by decide +kernel
theorem dX4_put_27 : decode cX4_put 27 = .ok (.iload_n 3, 1) := by decide +kernel
theorem dX4_put_28 : decode cX4_put 28 = .ok (.ldc 59, 2) := by decide +kernel
theorem dX4_put_30 : decode cX4_put 30 = .ok (.iand, 1) := by decide +kernel
theorem dX4_put_31 : decode cX4_put 31 = .ok (.ifCond .eq 5, 3) := by decide +kernel
theorem dX4_put_34 : decode cX4_put 34 = .ok (.iconst 0, 1) := by decide +kernel
theorem dX4_put_35 : decode cX4_put 35 = .ok (.ireturn, 1) := by decide +kernel
theorem dX4_put_36 : decode cX4_put 36 = .ok (.iload_n 2, 1) := by decide +kernel
theorem dX4_put_37 : decode cX4_put 37 = .ok (.iconst 3, 1) := by decide +kernel
theorem dX4_put_38 : decode cX4_put 38 = .ok (.if_icmp .ne 12, 3) := by decide +kernel
theorem dX4_put_41 : decode cX4_put 41 = .ok (.iload_n 3, 1) := by decide +kernel
theorem dX4_put_42 : decode cX4_put 42 = .ok (.bipush 7, 2) := by decide +kernel
theorem dX4_put_44 : decode cX4_put 44 = .ok (.iand, 1) := by decide +kernel
theorem dX4_put_45 : decode cX4_put 45 = .ok (.ifCond .eq 5, 3) := by decide +kernel
theorem dX4_put_48 : decode cX4_put 48 = .ok (.iconst 0, 1) := by decide +kernel
theorem dX4_put_49 : decode cX4_put 49 = .ok (.ireturn, 1) := by decide +kernel
theorem dX4_put_50 : decode cX4_put 50 = .ok (.aload_n 0, 1) := by decide +kernel
theorem dX4_put_51 : decode cX4_put 51 = .ok (.invokevirtual 60, 3) := by decide +kernel
theorem dX4_put_54 : decode cX4_put 54 = .ok (.aload_n 0, 1) := by decide +kernel
theorem dX4_put_55 : decode cX4_put 55 = .ok (.getfield 22, 3) := by decide +kernel
theorem dX4_put_58 : decode cX4_put 58 = .ok (.iconst 0, 1) := by decide +kernel
theorem dX4_put_59 : decode cX4_put 59 = .ok (.aaload, 1) := by decide +kernel
theorem dX4_put_60 : decode cX4_put 60 = .ok (.iload_n 3, 1) := by decide +kernel
theorem dX4_put_61 : decode cX4_put 61 = .ok (.iload_n 2, 1) := by decide +kernel
theorem dX4_put_62 : decode cX4_put 62 = .ok (.invokevirtual 63, 3) := by decide +kernel
theorem dX4_put_65 : decode cX4_put 65 = .ok (.iconst 1, 1) := by decide +kernel
theorem dX4_put_66 : decode cX4_put 66 = .ok (.ireturn, 1) := by decide +kernel
set_option maxRecDepth 20000 in
set_option maxRecDepth 100000 in
theorem ggX4_turn_X4_forgetGame : GoodIn wsX4_turn wsX4_forgetGame := goodIn_r _ [7, 1, 8, 9, 10, 11, 12, 13, 14, 15, 16, 17, 18, 19, 20, 21, 22, 23, 24, 25, 26, 27, 28, 29, 30, 31, 32] (by rfl) (by decide +kernel)
set_option maxRecDepth 20000 in
theorem gX4_turn_X4_forgetGame : GoodIn wsX4_turn (wsV RX4 60 RX4 yX4_forgetGame wsX4_forgetGame) := goodIn_app (goodIn_of _ (by decide +kernel)) ggX4_turn_X4_forgetGame
theorem dX4_turn_0 : decode cX4_turn 0 = .ok (.iload_n 1, 1) := by decide +kernel
theorem dX4_turn_1 : decode cX4_turn 1 = .ok (.ifCond .eq 10, 3) := by decide +kernel
theorem dX4_turn_4 : decode cX4_turn 4 = .ok (.iload_n 1, 1) := by decide +kernel
theorem dX4_turn_5 : decode cX4_turn 5 = .ok (.iconst 1, 1) := by decide +kernel
theorem dX4_turn_6 : decode cX4_turn 6 = .ok (.if_icmp .eq 5, 3) := by decide +kernel
theorem dX4_turn_9 : decode cX4_turn 9 = .ok (.iconst 0, 1) := by decide +kernel
theorem dX4_turn_10 : decode cX4_turn 10 = .ok (.ireturn, 1) := by decide +kernel
theorem dX4_turn_11 : decode cX4_turn 11 = .ok (.aload_n 0, 1) := by decide +kernel
theorem dX4_turn_12 : decode cX4_turn 12 = .ok (.invokevirtual 60, 3) := by decide +kernel
theorem dX4_turn_15 : decode cX4_turn 15 = .ok (.aload_n 0, 1) := by decide +kernel
theorem dX4_turn_16 : decode cX4_turn 16 = .ok (.getfield 22, 3) := by decide +kernel
theorem dX4_turn_19 : decode cX4_turn 19 = .ok (.iconst 0, 1) := by decide +kernel
theorem dX4_turn_20 : decode cX4_turn 20 = .ok (.aaload, 1) := by decide +kernel
theorem dX4_turn_21 : decode cX4_turn 21 = .ok (.iload_n 1, 1) := by decide +kernel
theorem dX4_turn_22 : decode cX4_turn 22 = .ok (.putfield 67, 3) := by decide +kernel
theorem dX4_turn_25 : decode cX4_turn 25 = .ok (.iconst 1, 1) := by decide +kernel
theorem dX4_turn_26 : decode cX4_turn 26 = .ok (.ireturn, 1) := by decide +kernel
set_option maxRecDepth 20000 in
set_option maxRecDepth 100000 in
theorem ggX4_at_X4_isSquare : GoodIn wsX4_at wsX4_isSquare := goodIn_r _ [6] (by rfl) (by decide +kernel)
set_option maxRecDepth 20000 in
theorem gX4_at_X4_isSquare : GoodIn wsX4_at (va_wsS RX4 55 yX4_isSquare wsX4_isSquare) := goodIn_app (goodIn_of _ (by decide +kernel)) ggX4_at_X4_isSquare
set_option maxRecDepth 20000 in
set_option maxRecDepth 100000 in
theorem ggX4_at_X2_pieceOn : GoodIn wsX4_at wsX2_pieceOn := goodIn_r _ [11, 12, 13, 14, 23, 24, 25, 26, 27] (by rfl) (by decide +kernel)
set_option maxRecDepth 20000 in
theorem gX4_at_X2_pieceOn : GoodIn wsX4_at (wsV RX4 70 RX2 yX2_pieceOn wsX2_pieceOn) := goodIn_app (goodIn_of _ (by decide +kernel)) ggX4_at_X2_pieceOn
theorem dX4_at_0 : decode cX4_at 0 = .ok (.iload_n 1, 1) := by decide +kernel
theorem dX4_at_1 : decode cX4_at 1 = .ok (.invokestatic 55, 3) := by decide +kernel
theorem dX4_at_4 : decode cX4_at 4 = .ok (.ifCond .eq 21, 3) := by decide +kernel
theorem dX4_at_7 : decode cX4_at 7 = .ok (.aload_n 0, 1) := by decide +kernel
theorem dX4_at_8 : decode cX4_at 8 = .ok (.getfield 22, 3) := by decide +kernel
theorem dX4_at_11 : decode cX4_at 11 = .ok (.aload_n 0, 1) := by decide +kernel
theorem dX4_at_12 : decode cX4_at 12 = .ok (.getfield 26, 3) := by decide +kernel
theorem dX4_at_15 : decode cX4_at 15 = .ok (.aaload, 1) := by decide +kernel
theorem dX4_at_16 : decode cX4_at 16 = .ok (.iconst 1, 1) := by decide +kernel
theorem dX4_at_17 : decode cX4_at 17 = .ok (.iload_n 1, 1) := by decide +kernel
theorem dX4_at_18 : decode cX4_at 18 = .ok (.ishl, 1) := by decide +kernel
theorem dX4_at_19 : decode cX4_at 19 = .ok (.invokevirtual 70, 3) := by decide +kernel
theorem dX4_at_22 : decode cX4_at 22 = .ok (.goto 4, 3) := by decide +kernel
theorem dX4_at_25 : decode cX4_at 25 = .ok (.iconst (-1), 1) := by decide +kernel
theorem dX4_at_26 : decode cX4_at 26 = .ok (.ireturn, 1) := by decide +kernel
theorem dX4_side_0 : decode cX4_side 0 = .ok (.aload_n 0, 1) := by decide +kernel
theorem dX4_side_1 : decode cX4_side 1 = .ok (.getfield 22, 3) := by decide +kernel
theorem dX4_side_4 : decode cX4_side 4 = .ok (.aload_n 0, 1) := by decide +kernel
theorem dX4_side_5 : decode cX4_side 5 = .ok (.getfield 26, 3) := by decide +kernel
theorem dX4_side_8 : decode cX4_side 8 = .ok (.aaload, 1) := by decide +kernel
theorem dX4_side_9 : decode cX4_side 9 = .ok (.getfield 67, 3) := by decide +kernel
theorem dX4_side_12 : decode cX4_side 12 = .ok (.ireturn, 1) := by decide +kernel
set_option maxRecDepth 20000 in
set_option maxRecDepth 100000 in
theorem ggX4_moves_X3_listMoves : GoodIn wsX4_moves wsX3_listMoves := goodIn_r _ [10, 11, 12, 13, 14, 15, 16, 17, 18, 19, 20, 21, 22, 9, 23, 24, 25, 26, 27, 28, 29, 30, 31, 32, 33, 34, 35, 36, 37, 38, 39, 40, 41, 42, 43, 44, 45, 46, 47, 48, 49, 50, 51, 52, 53, 54, 63, 64, 65, 66, 67, 68, 69, 70, 71] (by rfl) (by decide +kernel)
set_option maxRecDepth 20000 in
theorem gX4_moves_X3_listMoves : GoodIn wsX4_moves (wsV RX4 74 RX3 yX3_listMoves wsX3_listMoves) := goodIn_app (goodIn_of _ (by decide +kernel)) ggX4_moves_X3_listMoves
theorem dX4_moves_0 : decode cX4_moves 0 = .ok (.aload_n 0, 1) := by decide +kernel
theorem dX4_moves_1 : decode cX4_moves 1 = .ok (.getfield 10, 3) := by decide +kernel
theorem dX4_moves_4 : decode cX4_moves 4 = .ok (.aload_n 0, 1) := by decide +kernel
theorem dX4_moves_5 : decode cX4_moves 5 = .ok (.getfield 22, 3) := by decide +kernel
theorem dX4_moves_8 : decode cX4_moves 8 = .ok (.aload_n 0, 1) := by decide +kernel
theorem dX4_moves_9 : decode cX4_moves 9 = .ok (.getfield 26, 3) := by decide +kernel
theorem dX4_moves_12 : decode cX4_moves 12 = .ok (.aaload, 1) := by decide +kernel
theorem dX4_moves_13 : decode cX4_moves 13 = .ok (.aload_n 0, 1) := by decide +kernel
theorem dX4_moves_14 : decode cX4_moves 14 = .ok (.getfield 33, 3) := by decide +kernel
theorem dX4_moves_17 : decode cX4_moves 17 = .ok (.invokevirtual 74, 3) := by decide +kernel
theorem dX4_moves_20 : decode cX4_moves 20 = .ok (.aload_n 0, 1) := by decide +kernel
theorem dX4_moves_21 : decode cX4_moves 21 = .ok (.getfield 33, 3) := by decide +kernel
theorem dX4_moves_24 : decode cX4_moves 24 = .ok (.getfield 78, 3) := by decide +kernel
theorem dX4_moves_27 : decode cX4_moves 27 = .ok (.ireturn, 1) := by decide +kernel
set_option maxRecDepth 20000 in
set_option maxRecDepth 100000 in
theorem ggX4_move_X4_moves : GoodIn wsX4_move wsX4_moves := goodIn_r _ [7, 8, 9, 10, 1, 11, 12, 13, 14, 15, 16, 17, 18, 19, 20, 21, 22, 23, 24, 25, 26, 27, 28, 29, 30, 31, 32, 33, 34, 35, 36, 37, 38, 39, 40, 41, 42, 43, 44, 45, 46, 47, 48, 49, 50, 51, 52, 53, 54, 55, 56, 57, 58, 59, 60, 71, 72, 73, 74, 75, 76, 77, 78, 79, 80, 81, 82, 83, 84, 85, 86, 87] (by rfl) (by decide +kernel)
set_option maxRecDepth 20000 in
theorem gX4_move_X4_moves : GoodIn wsX4_move (wsV RX4 81 RX4 yX4_moves wsX4_moves) := goodIn_app (goodIn_of _ (by decide +kernel)) ggX4_move_X4_moves
set_option maxRecDepth 20000 in
set_option maxRecDepth 100000 in
theorem ggX4_move_X1_beginning : GoodIn wsX4_move wsX1_beginning := goodIn_r _ [63] (by rfl) (by decide +kernel)
set_option maxRecDepth 20000 in
theorem gX4_move_X1_beginning : GoodIn wsX4_move (va_wsS RX4 89 yX1_beginning wsX1_beginning) := goodIn_app (goodIn_of _ (by decide +kernel)) ggX4_move_X1_beginning
set_option maxRecDepth 20000 in
set_option maxRecDepth 100000 in
theorem ggX4_move_X1_end : GoodIn wsX4_move wsX1_end := goodIn_r _ [66] (by rfl) (by decide +kernel)
set_option maxRecDepth 20000 in
theorem gX4_move_X1_end : GoodIn wsX4_move (va_wsS RX4 92 yX1_end wsX1_end) := goodIn_app (goodIn_of _ (by decide +kernel)) ggX4_move_X1_end
set_option maxRecDepth 20000 in
set_option maxRecDepth 100000 in
theorem ggX4_move_X1_taken : GoodIn wsX4_move wsX1_taken := goodIn_r _ [69, 70] (by rfl) (by decide +kernel)
set_option maxRecDepth 20000 in
theorem gX4_move_X1_taken : GoodIn wsX4_move (va_wsS RX4 95 yX1_taken wsX1_taken) := goodIn_app (goodIn_of _ (by decide +kernel)) ggX4_move_X1_taken
theorem dX4_move_0 : decode cX4_move 0 = .ok (.iload_n 1, 1) := by decide +kernel
theorem dX4_move_1 : decode cX4_move 1 = .ok (.ifCond .lt 11, 3) := by decide +kernel
theorem dX4_move_4 : decode cX4_move 4 = .ok (.iload_n 1, 1) := by decide +kernel
theorem dX4_move_5 : decode cX4_move 5 = .ok (.aload_n 0, 1) := by decide +kernel
theorem dX4_move_6 : decode cX4_move 6 = .ok (.invokevirtual 81, 3) := by decide +kernel
theorem dX4_move_9 : decode cX4_move 9 = .ok (.if_icmp .lt 5, 3) := by decide +kernel
theorem dX4_move_12 : decode cX4_move 12 = .ok (.iconst (-1), 1) := by decide +kernel
theorem dX4_move_13 : decode cX4_move 13 = .ok (.ireturn, 1) := by decide +kernel
theorem dX4_move_14 : decode cX4_move 14 = .ok (.aload_n 0, 1) := by decide +kernel
theorem dX4_move_15 : decode cX4_move 15 = .ok (.getfield 33, 3) := by decide +kernel
theorem dX4_move_18 : decode cX4_move 18 = .ok (.getfield 85, 3) := by decide +kernel
theorem dX4_move_21 : decode cX4_move 21 = .ok (.iload_n 1, 1) := by decide +kernel
theorem dX4_move_22 : decode cX4_move 22 = .ok (.iaload, 1) := by decide +kernel
theorem dX4_move_23 : decode cX4_move 23 = .ok (.istore_n 3, 1) := by decide +kernel
theorem dX4_move_24 : decode cX4_move 24 = .ok (.iload_n 2, 1) := by decide +kernel
theorem dX4_move_25 : decode cX4_move 25 = .ok (.tableswitch 42 0 2 #[27, 32, 37], 27) := by decide +kernel
theorem dX4_move_52 : decode cX4_move 52 = .ok (.iload_n 3, 1) := by decide +kernel
theorem dX4_move_53 : decode cX4_move 53 = .ok (.invokestatic 89, 3) := by decide +kernel
theorem dX4_move_56 : decode cX4_move 56 = .ok (.ireturn, 1) := by decide +kernel
theorem dX4_move_57 : decode cX4_move 57 = .ok (.iload_n 3, 1) := by decide +kernel
theorem dX4_move_58 : decode cX4_move 58 = .ok (.invokestatic 92, 3) := by decide +kernel
theorem dX4_move_61 : decode cX4_move 61 = .ok (.ireturn, 1) := by decide +kernel
theorem dX4_move_62 : decode cX4_move 62 = .ok (.iload_n 3, 1) := by decide +kernel
theorem dX4_move_63 : decode cX4_move 63 = .ok (.invokestatic 95, 3) := by decide +kernel
theorem dX4_move_66 : decode cX4_move 66 = .ok (.ireturn, 1) := by decide +kernel
theorem dX4_move_67 : decode cX4_move 67 = .ok (.iconst (-1), 1) := by decide +kernel
theorem dX4_move_68 : decode cX4_move 68 = .ok (.ireturn, 1) := by decide +kernel
set_option maxRecDepth 20000 in
set_option maxRecDepth 100000 in
theorem ggX4_play_X4_over : GoodIn wsX4_play wsX4_over := goodIn_r _ [9, 4, 1, 10, 11, 12, 13, 14, 15, 16, 17, 18, 19, 20, 21, 22, 23, 24, 25, 26, 27, 28, 29, 30, 31, 32, 33, 34, 35, 36, 37, 38, 39, 40, 41, 42, 43, 44, 45, 46, 47, 48, 49, 99, 100, 101, 102, 103, 104, 105, 106, 109, 110, 111, 112, 113, 114, 115] (by rfl) (by decide +kernel)
set_option maxRecDepth 20000 in
theorem gX4_play_X4_over : GoodIn wsX4_play (wsV RX4 98 RX4 yX4_over wsX4_over) := goodIn_app (goodIn_of _ (by decide +kernel)) ggX4_play_X4_over
set_option maxRecDepth 20000 in
set_option maxRecDepth 100000 in
theorem ggX4_play_X4_moves : GoodIn wsX4_play wsX4_moves := goodIn_r _ [53, 10, 4, 1, 2, 54, 55, 56, 57, 16, 58, 59, 18, 19, 20, 21, 22, 23, 24, 25, 60, 61, 62, 63, 30, 31, 32, 33, 34, 35, 36, 37, 38, 39, 40, 41, 42, 43, 44, 45, 46, 47, 48, 49, 64, 65, 66, 67, 68, 69, 70, 71, 72, 73, 74, 99, 100, 101, 102, 103, 104, 105, 106, 107, 108, 109, 110, 111, 112, 113, 114, 115] (by rfl) (by decide +kernel)
set_option maxRecDepth 20000 in
theorem gX4_play_X4_moves : GoodIn wsX4_play (wsV RX4 81 RX4 yX4_moves wsX4_moves) := goodIn_app (goodIn_of _ (by decide +kernel)) ggX4_play_X4_moves
set_option maxRecDepth 20000 in
set_option maxRecDepth 100000 in
theorem ggX4_play_X2_follow : GoodIn wsX4_play wsX2_follow := goodIn_r _ [78, 23, 46, 79, 24, 25, 80, 81, 82, 67, 83, 84, 85, 86, 87, 88, 89, 90, 109, 110, 111, 112, 113] (by rfl) (by decide +kernel)
set_option maxRecDepth 20000 in
theorem gX4_play_X2_follow : GoodIn wsX4_play (wsV RX4 101 RX2 yX2_follow wsX2_follow) := goodIn_app (goodIn_of _ (by decide +kernel)) ggX4_play_X2_follow
set_option maxRecDepth 20000 in
set_option maxRecDepth 100000 in
theorem ggX4_play_X1_taken : GoodIn wsX4_play wsX1_taken := goodIn_r _ [89, 90] (by rfl) (by decide +kernel)
set_option maxRecDepth 20000 in
theorem gX4_play_X1_taken : GoodIn wsX4_play (va_wsS RX4 95 yX1_taken wsX1_taken) := goodIn_app (goodIn_of _ (by decide +kernel)) ggX4_play_X1_taken
set_option maxRecDepth 20000 in
set_option maxRecDepth 100000 in
theorem ggX4_play_J6_bitCount_0f7a4 : GoodIn wsX4_play wsJ6_bitCount_0f7a4 := goodIn_r _ [95, 96, 97, 98] (by rfl) (by decide +kernel)
set_option maxRecDepth 20000 in
theorem gX4_play_J6_bitCount_0f7a4 : GoodIn wsX4_play (va_wsS RX4 105 yJ6_bitCount_0f7a4 wsJ6_bitCount_0f7a4) := goodIn_app (goodIn_of _ (by decide +kernel)) ggX4_play_J6_bitCount_0f7a4
theorem dX4_play_0 : decode cX4_play 0 = .ok (.aload_n 0, 1) := by decide +kernel
theorem dX4_play_1 : decode cX4_play 1 = .ok (.invokevirtual 98, 3) := by decide +kernel
theorem dX4_play_4 : decode cX4_play 4 = .ok (.ifCond .ne 24, 3) := by decide +kernel
theorem dX4_play_7 : decode cX4_play 7 = .ok (.iload_n 1, 1) := by decide +kernel
theorem dX4_play_8 : decode cX4_play 8 = .ok (.ifCond .lt 20, 3) := by decide +kernel
theorem dX4_play_11 : decode cX4_play 11 = .ok (.iload_n 1, 1) := by decide +kernel
theorem dX4_play_12 : decode cX4_play 12 = .ok (.aload_n 0, 1) := by decide +kernel
theorem dX4_play_13 : decode cX4_play 13 = .ok (.invokevirtual 81, 3) := by decide +kernel
theorem dX4_play_16 : decode cX4_play 16 = .ok (.if_icmp .ge 12, 3) := by decide +kernel
theorem dX4_play_19 : decode cX4_play 19 = .ok (.aload_n 0, 1) := by decide +kernel
theorem dX4_play_20 : decode cX4_play 20 = .ok (.getfield 26, 3) := by decide +kernel
theorem dX4_play_23 : decode cX4_play 23 = .ok (.bipush 100, 2) := by decide +kernel
theorem dX4_play_25 : decode cX4_play 25 = .ok (.if_icmp .lt 5, 3) := by decide +kernel
theorem dX4_play_28 : decode cX4_play 28 = .ok (.iconst (-1), 1) := by decide +kernel
theorem dX4_play_29 : decode cX4_play 29 = .ok (.ireturn, 1) := by decide +kernel
theorem dX4_play_30 : decode cX4_play 30 = .ok (.aload_n 0, 1) := by decide +kernel
theorem dX4_play_31 : decode cX4_play 31 = .ok (.getfield 33, 3) := by decide +kernel
theorem dX4_play_34 : decode cX4_play 34 = .ok (.getfield 85, 3) := by decide +kernel
theorem dX4_play_37 : decode cX4_play 37 = .ok (.iload_n 1, 1) := by decide +kernel
theorem dX4_play_38 : decode cX4_play 38 = .ok (.iaload, 1) := by decide +kernel
theorem dX4_play_39 : decode cX4_play 39 = .ok (.istore_n 2, 1) := by decide +kernel
theorem dX4_play_40 : decode cX4_play 40 = .ok (.aload_n 0, 1) := by decide +kernel
theorem dX4_play_41 : decode cX4_play 41 = .ok (.getfield 22, 3) := by decide +kernel
theorem dX4_play_44 : decode cX4_play 44 = .ok (.aload_n 0, 1) := by decide +kernel
theorem dX4_play_45 : decode cX4_play 45 = .ok (.getfield 26, 3) := by decide +kernel
theorem dX4_play_48 : decode cX4_play 48 = .ok (.iconst 1, 1) := by decide +kernel
theorem dX4_play_49 : decode cX4_play 49 = .ok (.iadd, 1) := by decide +kernel
theorem dX4_play_50 : decode cX4_play 50 = .ok (.aaload, 1) := by decide +kernel
theorem dX4_play_51 : decode cX4_play 51 = .ok (.aload_n 0, 1) := by decide +kernel
theorem dX4_play_52 : decode cX4_play 52 = .ok (.getfield 22, 3) := by decide +kernel
theorem dX4_play_55 : decode cX4_play 55 = .ok (.aload_n 0, 1) := by decide +kernel
theorem dX4_play_56 : decode cX4_play 56 = .ok (.getfield 26, 3) := by decide +kernel
theorem dX4_play_59 : decode cX4_play 59 = .ok (.aaload, 1) := by decide +kernel
theorem dX4_play_60 : decode cX4_play 60 = .ok (.iload_n 2, 1) := by decide +kernel
theorem dX4_play_61 : decode cX4_play 61 = .ok (.invokevirtual 101, 3) := by decide +kernel
theorem dX4_play_64 : decode cX4_play 64 = .ok (.aload_n 0, 1) := by decide +kernel
theorem dX4_play_65 : decode cX4_play 65 = .ok (.dup, 1) := by decide +kernel
theorem dX4_play_66 : decode cX4_play 66 = .ok (.getfield 26, 3) := by decide +kernel
theorem dX4_play_69 : decode cX4_play 69 = .ok (.iconst 1, 1) := by decide +kernel
theorem dX4_play_70 : decode cX4_play 70 = .ok (.iadd, 1) := by decide +kernel
theorem dX4_play_71 : decode cX4_play 71 = .ok (.putfield 26, 3) := by decide +kernel
theorem dX4_play_74 : decode cX4_play 74 = .ok (.iload_n 2, 1) := by decide +kernel
theorem dX4_play_75 : decode cX4_play 75 = .ok (.invokestatic 95, 3) := by decide +kernel
theorem dX4_play_78 : decode cX4_play 78 = .ok (.invokestatic 105, 3) := by decide +kernel
theorem dX4_play_81 : decode cX4_play 81 = .ok (.ireturn, 1) := by decide +kernel
theorem dX4_undo_0 : decode cX4_undo 0 = .ok (.aload_n 0, 1) := by decide +kernel
theorem dX4_undo_1 : decode cX4_undo 1 = .ok (.getfield 26, 3) := by decide +kernel
theorem dX4_undo_4 : decode cX4_undo 4 = .ok (.ifCond .ne 5, 3) := by decide +kernel
theorem dX4_undo_7 : decode cX4_undo 7 = .ok (.iconst 0, 1) := by decide +kernel
theorem dX4_undo_8 : decode cX4_undo 8 = .ok (.ireturn, 1) := by decide +kernel
theorem dX4_undo_9 : decode cX4_undo 9 = .ok (.aload_n 0, 1) := by decide +kernel
theorem dX4_undo_10 : decode cX4_undo 10 = .ok (.dup, 1) := by decide +kernel
theorem dX4_undo_11 : decode cX4_undo 11 = .ok (.getfield 26, 3) := by decide +kernel
theorem dX4_undo_14 : decode cX4_undo 14 = .ok (.iconst 1, 1) := by decide +kernel
theorem dX4_undo_15 : decode cX4_undo 15 = .ok (.isub, 1) := by decide +kernel
theorem dX4_undo_16 : decode cX4_undo 16 = .ok (.putfield 26, 3) := by decide +kernel
theorem dX4_undo_19 : decode cX4_undo 19 = .ok (.iconst 1, 1) := by decide +kernel
theorem dX4_undo_20 : decode cX4_undo 20 = .ok (.ireturn, 1) := by decide +kernel
theorem dX4_played_0 : decode cX4_played 0 = .ok (.aload_n 0, 1) := by decide +kernel
theorem dX4_played_1 : decode cX4_played 1 = .ok (.getfield 26, 3) := by decide +kernel
theorem dX4_played_4 : decode cX4_played 4 = .ok (.ireturn, 1) := by decide +kernel
set_option maxRecDepth 20000 in
set_option maxRecDepth 100000 in
theorem ggX4_over_X3_canMove : GoodIn wsX4_over wsX3_canMove := goodIn_r _ [10, 11, 12, 13, 14, 15, 16, 17, 18, 19, 20, 21, 9, 22, 23, 24, 25, 26, 27, 28, 29, 30, 31, 32, 33, 34, 35, 36, 37, 38, 39, 40, 41, 42, 51, 52, 53, 54, 55, 56, 57] (by rfl) (by decide +kernel)
set_option maxRecDepth 20000 in
theorem gX4_over_X3_canMove : GoodIn wsX4_over (wsV RX4 110 RX3 yX3_canMove wsX3_canMove) := goodIn_app (goodIn_of _ (by decide +kernel)) ggX4_over_X3_canMove
theorem dX4_over_0 : decode cX4_over 0 = .ok (.aload_n 0, 1) := by decide +kernel
theorem dX4_over_1 : decode cX4_over 1 = .ok (.getfield 22, 3) := by decide +kernel
theorem dX4_over_4 : decode cX4_over 4 = .ok (.aload_n 0, 1) := by decide +kernel
theorem dX4_over_5 : decode cX4_over 5 = .ok (.getfield 26, 3) := by decide +kernel
theorem dX4_over_8 : decode cX4_over 8 = .ok (.aaload, 1) := by decide +kernel
theorem dX4_over_9 : decode cX4_over 9 = .ok (.astore_n 1, 1) := by decide +kernel
theorem dX4_over_10 : decode cX4_over 10 = .ok (.aload_n 0, 1) := by decide +kernel
theorem dX4_over_11 : decode cX4_over 11 = .ok (.getfield 10, 3) := by decide +kernel
theorem dX4_over_14 : decode cX4_over 14 = .ok (.aload_n 1, 1) := by decide +kernel
theorem dX4_over_15 : decode cX4_over 15 = .ok (.invokevirtual 110, 3) := by decide +kernel
theorem dX4_over_18 : decode cX4_over 18 = .ok (.ifCond .ne 16, 3) := by decide +kernel
theorem dX4_over_21 : decode cX4_over 21 = .ok (.aload_n 1, 1) := by decide +kernel
theorem dX4_over_22 : decode cX4_over 22 = .ok (.getfield 67, 3) := by decide +kernel
theorem dX4_over_25 : decode cX4_over 25 = .ok (.ifCond .ne 7, 3) := by decide +kernel
theorem dX4_over_28 : decode cX4_over 28 = .ok (.iconst 2, 1) := by decide +kernel
theorem dX4_over_29 : decode cX4_over 29 = .ok (.goto 4, 3) := by decide +kernel
theorem dX4_over_32 : decode cX4_over 32 = .ok (.iconst 1, 1) := by decide +kernel
theorem dX4_over_33 : decode cX4_over 33 = .ok (.ireturn, 1) := by decide +kernel
theorem dX4_over_34 : decode cX4_over 34 = .ok (.aload_n 1, 1) := by decide +kernel
theorem dX4_over_35 : decode cX4_over 35 = .ok (.getfield 114, 3) := by decide +kernel
theorem dX4_over_38 : decode cX4_over 38 = .ok (.bipush 20, 2) := by decide +kernel
theorem dX4_over_40 : decode cX4_over 40 = .ok (.if_icmp .lt 7, 3) := by decide +kernel
theorem dX4_over_43 : decode cX4_over 43 = .ok (.iconst 3, 1) := by decide +kernel
theorem dX4_over_44 : decode cX4_over 44 = .ok (.goto 4, 3) := by decide +kernel
theorem dX4_over_47 : decode cX4_over 47 = .ok (.iconst 0, 1) := by decide +kernel
theorem dX4_over_48 : decode cX4_over 48 = .ok (.ireturn, 1) := by decide +kernel
theorem dX4_quiet_0 : decode cX4_quiet 0 = .ok (.aload_n 0, 1) := by decide +kernel
theorem dX4_quiet_1 : decode cX4_quiet 1 = .ok (.getfield 22, 3) := by decide +kernel
theorem dX4_quiet_4 : decode cX4_quiet 4 = .ok (.aload_n 0, 1) := by decide +kernel
theorem dX4_quiet_5 : decode cX4_quiet 5 = .ok (.getfield 26, 3) := by decide +kernel
theorem dX4_quiet_8 : decode cX4_quiet 8 = .ok (.aaload, 1) := by decide +kernel
theorem dX4_quiet_9 : decode cX4_quiet 9 = .ok (.getfield 114, 3) := by decide +kernel
theorem dX4_quiet_12 : decode cX4_quiet 12 = .ok (.ireturn, 1) := by decide +kernel
set_option maxRecDepth 20000 in
set_option maxRecDepth 100000 in
theorem ggX4_ways_X4_isDepth : GoodIn wsX4_ways wsX4_isDepth := goodIn_r _ [6] (by rfl) (by decide +kernel)
set_option maxRecDepth 20000 in
theorem gX4_ways_X4_isDepth : GoodIn wsX4_ways (va_wsS RX4 117 yX4_isDepth wsX4_isDepth) := goodIn_app (goodIn_of _ (by decide +kernel)) ggX4_ways_X4_isDepth
set_option maxRecDepth 20000 in
set_option maxRecDepth 100000 in
theorem ggX4_ways_X4_countWays : GoodIn wsX4_ways wsX4_countWays := goodIn_r _ [10, 11, 12, 13, 14, 15, 16, 17, 18, 19, 20, 21, 22, 23, 24, 25, 26, 27, 28, 29, 30, 31, 32, 33, 34, 35, 36, 37, 38, 39, 40, 41, 42, 43, 44, 45, 46, 47, 48, 49, 50, 51, 52, 53, 54, 55, 56, 57, 58, 59, 60, 61, 62, 63, 64, 65, 66, 67, 68, 69, 70, 71, 72, 73, 74, 75, 76, 77, 78, 79, 80, 7, 8, 9, 5, 81, 82, 83, 84, 85, 86, 87, 88, 89, 90, 91, 92, 93, 94, 95, 96, 97] (by rfl) (by decide +kernel)
set_option maxRecDepth 20000 in
theorem gX4_ways_X4_countWays : GoodIn wsX4_ways (wsV RX4 120 RX4 yX4_countWays wsX4_countWays) := goodIn_app (goodIn_of _ (by decide +kernel)) ggX4_ways_X4_countWays
theorem dX4_ways_0 : decode cX4_ways 0 = .ok (.iload_n 1, 1) := by decide +kernel
theorem dX4_ways_1 : decode cX4_ways 1 = .ok (.invokestatic 117, 3) := by decide +kernel
theorem dX4_ways_4 : decode cX4_ways 4 = .ok (.ifCond .eq 20, 3) := by decide +kernel
theorem dX4_ways_7 : decode cX4_ways 7 = .ok (.aload_n 0, 1) := by decide +kernel
theorem dX4_ways_8 : decode cX4_ways 8 = .ok (.aload_n 0, 1) := by decide +kernel
theorem dX4_ways_9 : decode cX4_ways 9 = .ok (.getfield 22, 3) := by decide +kernel
theorem dX4_ways_12 : decode cX4_ways 12 = .ok (.aload_n 0, 1) := by decide +kernel
theorem dX4_ways_13 : decode cX4_ways 13 = .ok (.getfield 26, 3) := by decide +kernel
theorem dX4_ways_16 : decode cX4_ways 16 = .ok (.aaload, 1) := by decide +kernel
theorem dX4_ways_17 : decode cX4_ways 17 = .ok (.iload_n 1, 1) := by decide +kernel
theorem dX4_ways_18 : decode cX4_ways 18 = .ok (.invokevirtual 120, 3) := by decide +kernel
theorem dX4_ways_21 : decode cX4_ways 21 = .ok (.goto 4, 3) := by decide +kernel
theorem dX4_ways_24 : decode cX4_ways 24 = .ok (.iconst (-1), 1) := by decide +kernel
theorem dX4_ways_25 : decode cX4_ways 25 = .ok (.ireturn, 1) := by decide +kernel
set_option maxRecDepth 20000 in
set_option maxRecDepth 100000 in
theorem ggX4_verdict_X2_isOneEach : GoodIn wsX4_verdict wsX2_isOneEach := goodIn_r _ [7, 8, 9, 10, 11, 12, 13, 14, 15, 16, 179, 180, 181, 182, 183] (by rfl) (by decide +kernel)
set_option maxRecDepth 20000 in
theorem gX4_verdict_X2_isOneEach : GoodIn wsX4_verdict (wsV RX4 124 RX2 yX2_isOneEach wsX2_isOneEach) := goodIn_app (goodIn_of _ (by decide +kernel)) ggX4_verdict_X2_isOneEach
set_option maxRecDepth 20000 in
set_option maxRecDepth 100000 in
theorem ggX4_verdict_X4_judge : GoodIn wsX4_verdict wsX4_judge := goodIn_r _ [21, 22, 23, 24, 25, 26, 27, 28, 29, 30, 31, 32, 33, 34, 35, 36, 37, 38, 39, 40, 41, 42, 6, 43, 44, 45, 46, 47, 48, 49, 50, 51, 52, 53, 54, 55, 56, 57, 58, 8, 9, 59, 60, 61, 62, 63, 64, 65, 66, 67, 68, 69, 70, 71, 72, 73, 74, 75, 76, 77, 78, 79, 80, 81, 82, 83, 84, 85, 86, 87, 88, 89, 90, 91, 92, 93, 94, 95, 96, 97, 98, 99, 100, 101, 102, 103, 104, 105, 106, 107, 108, 109, 110, 111, 112, 113, 114, 115, 116, 117, 118, 119, 120, 121, 122, 123, 124, 125, 126, 127, 128, 129, 130, 131, 132, 133, 134, 135, 136, 137, 138, 139, 140, 141, 142, 12, 143, 144, 145, 146, 147, 148, 149, 150, 151, 152, 153, 154, 155, 156, 157, 158, 159, 160, 161, 162, 163, 164, 165, 166, 167, 168, 169, 170, 171, 172, 173, 174, 175, 176, 177, 178, 184, 185, 186, 187, 188, 179, 180, 181, 182, 183, 189, 190] (by rfl) (by decide +kernel)
set_option maxRecDepth 20000 in
theorem gX4_verdict_X4_judge : GoodIn wsX4_verdict (wsV RX4 128 RX4 yX4_judge wsX4_judge) := goodIn_app (goodIn_of _ (by decide +kernel)) ggX4_verdict_X4_judge
theorem dX4_verdict_0 : decode cX4_verdict 0 = .ok (.aload_n 0, 1) := by decide +kernel
theorem dX4_verdict_1 : decode cX4_verdict 1 = .ok (.getfield 22, 3) := by decide +kernel
theorem dX4_verdict_4 : decode cX4_verdict 4 = .ok (.aload_n 0, 1) := by decide +kernel
theorem dX4_verdict_5 : decode cX4_verdict 5 = .ok (.getfield 26, 3) := by decide +kernel
theorem dX4_verdict_8 : decode cX4_verdict 8 = .ok (.aaload, 1) := by decide +kernel
theorem dX4_verdict_9 : decode cX4_verdict 9 = .ok (.astore_n 1, 1) := by decide +kernel
theorem dX4_verdict_10 : decode cX4_verdict 10 = .ok (.aload_n 1, 1) := by decide +kernel
theorem dX4_verdict_11 : decode cX4_verdict 11 = .ok (.invokevirtual 124, 3) := by decide +kernel
theorem dX4_verdict_14 : decode cX4_verdict 14 = .ok (.ifCond .eq 11, 3) := by decide +kernel
theorem dX4_verdict_17 : decode cX4_verdict 17 = .ok (.aload_n 0, 1) := by decide +kernel
theorem dX4_verdict_18 : decode cX4_verdict 18 = .ok (.aload_n 1, 1) := by decide +kernel
theorem dX4_verdict_19 : decode cX4_verdict 19 = .ok (.invokevirtual 128, 3) := by decide +kernel
theorem dX4_verdict_22 : decode cX4_verdict 22 = .ok (.goto 6, 3) := by decide +kernel
theorem dX4_verdict_25 : decode cX4_verdict 25 = .ok (.sipush (-2000), 3) := by decide +kernel
theorem dX4_verdict_28 : decode cX4_verdict 28 = .ok (.ireturn, 1) := by decide +kernel
set_option maxRecDepth 20000 in
set_option maxRecDepth 100000 in
theorem ggX4_value_X4_isDepth : GoodIn wsX4_value wsX4_isDepth := goodIn_r _ [6] (by rfl) (by decide +kernel)
set_option maxRecDepth 20000 in
theorem gX4_value_X4_isDepth : GoodIn wsX4_value (va_wsS RX4 117 yX4_isDepth wsX4_isDepth) := goodIn_app (goodIn_of _ (by decide +kernel)) ggX4_value_X4_isDepth
set_option maxRecDepth 20000 in
set_option maxRecDepth 100000 in
theorem ggX4_value_X4_weigh : GoodIn wsX4_value wsX4_weigh := goodIn_r _ [10, 11, 12, 13, 14, 15, 16, 17, 18, 19, 20, 21, 22, 23, 24, 25, 26, 27, 28, 29, 30, 31, 32, 33, 34, 35, 36, 5, 37, 38, 39, 40, 41, 42, 43, 44, 45, 46, 47, 48, 49, 50, 51, 52, 53, 54, 55, 56, 57, 58, 59, 60, 61, 62, 63, 64, 65, 66, 67, 68, 69, 70, 71, 72, 73, 74, 75, 76, 77, 78, 79, 80, 81, 82, 83, 84, 85, 86, 87, 88, 89, 90, 91, 92, 93, 94, 95, 96, 97, 98, 99, 100, 101, 102, 103, 104, 105, 106, 107, 108, 109, 110, 111, 112, 113, 114, 115, 116, 117, 118, 119, 120, 121, 122, 123, 124, 125, 126, 127, 128, 129, 130, 131, 132, 133, 134, 135, 136, 137, 138, 139, 140, 141, 142, 143, 144, 145, 146, 147, 148, 149, 150, 151, 152, 153, 154, 155, 156, 157, 158, 159, 160, 161, 162, 163, 164, 165, 166, 167, 168, 169, 170, 171, 172, 173, 174, 175, 176, 177, 178, 179, 180, 181, 182, 183, 184, 185, 186, 187, 188, 189, 190, 191, 192, 193, 194, 195, 196, 197, 198, 199, 200, 201, 202, 203, 7, 8, 9, 204, 205, 206, 207, 208, 209, 210, 211, 212, 213, 214, 215, 216, 217, 218, 219, 220, 221, 222, 223] (by rfl) (by decide +kernel)
set_option maxRecDepth 20000 in
theorem gX4_value_X4_weigh : GoodIn wsX4_value (wsV RX4 132 RX4 yX4_weigh wsX4_weigh) := goodIn_app (goodIn_of _ (by decide +kernel)) ggX4_value_X4_weigh
theorem dX4_value_0 : decode cX4_value 0 = .ok (.iload_n 1, 1) := by decide +kernel
theorem dX4_value_1 : decode cX4_value 1 = .ok (.invokestatic 117, 3) := by decide +kernel
theorem dX4_value_4 : decode cX4_value 4 = .ok (.ifCond .eq 26, 3) := by decide +kernel
theorem dX4_value_7 : decode cX4_value 7 = .ok (.aload_n 0, 1) := by decide +kernel
theorem dX4_value_8 : decode cX4_value 8 = .ok (.aload_n 0, 1) := by decide +kernel
theorem dX4_value_9 : decode cX4_value 9 = .ok (.getfield 22, 3) := by decide +kernel
theorem dX4_value_12 : decode cX4_value 12 = .ok (.aload_n 0, 1) := by decide +kernel
theorem dX4_value_13 : decode cX4_value 13 = .ok (.getfield 26, 3) := by decide +kernel
theorem dX4_value_16 : decode cX4_value 16 = .ok (.aaload, 1) := by decide +kernel
theorem dX4_value_17 : decode cX4_value 17 = .ok (.iload_n 1, 1) := by decide +kernel
theorem dX4_value_18 : decode cX4_value 18 = .ok (.sipush (-2000), 3) := by decide +kernel
theorem dX4_value_21 : decode cX4_value 21 = .ok (.sipush 2000, 3) := by decide +kernel
theorem dX4_value_24 : decode cX4_value 24 = .ok (.invokevirtual 132, 3) := by decide +kernel
theorem dX4_value_27 : decode cX4_value 27 = .ok (.goto 6, 3) := by decide +kernel
theorem dX4_value_30 : decode cX4_value 30 = .ok (.sipush (-2000), 3) := by decide +kernel
theorem dX4_value_33 : decode cX4_value 33 = .ok (.ireturn, 1) := by decide +kernel
set_option maxRecDepth 20000 in
set_option maxRecDepth 100000 in
theorem ggX4_best_X4_isDepth : GoodIn wsX4_best wsX4_isDepth := goodIn_r _ [9] (by rfl) (by decide +kernel)
set_option maxRecDepth 20000 in
theorem gX4_best_X4_isDepth : GoodIn wsX4_best (va_wsS RX4 117 yX4_isDepth wsX4_isDepth) := goodIn_app (goodIn_of _ (by decide +kernel)) ggX4_best_X4_isDepth
set_option maxRecDepth 20000 in
set_option maxRecDepth 100000 in
theorem ggX4_best_X4_moves : GoodIn wsX4_best wsX4_moves := goodIn_r _ [13, 14, 2, 3, 4, 15, 16, 17, 18, 19, 20, 21, 22, 23, 24, 25, 26, 27, 28, 29, 30, 31, 32, 33, 34, 35, 36, 37, 38, 39, 40, 41, 42, 43, 44, 45, 46, 47, 48, 49, 50, 51, 52, 53, 54, 55, 56, 57, 58, 59, 60, 61, 62, 63, 64, 210, 211, 212, 213, 214, 215, 216, 217, 218, 219, 220, 221, 222, 223, 224, 225, 226] (by rfl) (by decide +kernel)
set_option maxRecDepth 20000 in
theorem gX4_best_X4_moves : GoodIn wsX4_best (wsV RX4 81 RX4 yX4_moves wsX4_moves) := goodIn_app (goodIn_of _ (by decide +kernel)) ggX4_best_X4_moves
set_option maxRecDepth 20000 in
set_option maxRecDepth 100000 in
theorem ggX4_best_X2_follow : GoodIn wsX4_best wsX2_follow := goodIn_r _ [68, 27, 50, 69, 28, 29, 70, 71, 72, 57, 73, 74, 75, 76, 77, 78, 79, 80, 220, 221, 222, 223, 224] (by rfl) (by decide +kernel)
set_option maxRecDepth 20000 in
theorem gX4_best_X2_follow : GoodIn wsX4_best (wsV RX4 101 RX2 yX2_follow wsX2_follow) := goodIn_app (goodIn_of _ (by decide +kernel)) ggX4_best_X2_follow
set_option maxRecDepth 20000 in
set_option maxRecDepth 100000 in
theorem ggX4_best_X4_weigh : GoodIn wsX4_best wsX4_weigh := goodIn_r _ [84, 14, 85, 15, 86, 5, 87, 88, 89, 90, 91, 92, 93, 25, 94, 28, 29, 95, 96, 97, 98, 99, 100, 101, 102, 103, 104, 8, 105, 106, 107, 108, 109, 110, 111, 112, 113, 114, 115, 116, 117, 118, 119, 120, 121, 122, 57, 123, 124, 125, 126, 127, 128, 60, 129, 130, 131, 132, 133, 134, 135, 136, 137, 138, 139, 50, 27, 70, 140, 141, 142, 143, 144, 17, 18, 19, 20, 21, 22, 23, 24, 26, 30, 31, 32, 33, 34, 35, 36, 37, 38, 39, 40, 41, 42, 43, 44, 45, 46, 47, 48, 49, 51, 52, 53, 54, 55, 56, 58, 59, 61, 62, 63, 64, 145, 146, 147, 148, 149, 150, 151, 152, 153, 154, 66, 67, 68, 69, 71, 72, 73, 74, 75, 76, 77, 78, 79, 80, 155, 156, 157, 158, 159, 160, 161, 162, 163, 164, 165, 166, 167, 168, 169, 170, 171, 172, 173, 174, 175, 176, 177, 178, 179, 180, 181, 182, 183, 184, 185, 186, 187, 188, 189, 190, 191, 192, 193, 194, 195, 196, 197, 198, 199, 200, 201, 202, 203, 204, 205, 206, 207, 208, 209, 16, 65, 81, 82, 83, 210, 211, 212, 213, 214, 215, 216, 217, 218, 219, 220, 221, 222, 223, 224, 227, 228, 229, 225, 226] (by rfl) (by decide +kernel)
set_option maxRecDepth 20000 in
theorem gX4_best_X4_weigh : GoodIn wsX4_best (wsV RX4 132 RX4 yX4_weigh wsX4_weigh) := goodIn_app (goodIn_of _ (by decide +kernel)) ggX4_best_X4_weigh
theorem dX4_best_0 : decode cX4_best 0 = .ok (.iload_n 1, 1) := by decide +kernel
theorem dX4_best_1 : decode cX4_best 1 = .ok (.iconst 1, 1) := by decide +kernel
theorem dX4_best_2 : decode cX4_best 2 = .ok (.if_icmp .lt 10, 3) := by decide +kernel
theorem dX4_best_5 : decode cX4_best 5 = .ok (.iload_n 1, 1) := by decide +kernel
theorem dX4_best_6 : decode cX4_best 6 = .ok (.invokestatic 117, 3) := by decide +kernel
theorem dX4_best_9 : decode cX4_best 9 = .ok (.ifCond .ne 5, 3) := by decide +kernel
theorem dX4_best_12 : decode cX4_best 12 = .ok (.iconst (-1), 1) := by decide +kernel
theorem dX4_best_13 : decode cX4_best 13 = .ok (.ireturn, 1) := by decide +kernel
theorem dX4_best_14 : decode cX4_best 14 = .ok (.aload_n 0, 1) := by decide +kernel
theorem dX4_best_15 : decode cX4_best 15 = .ok (.invokevirtual 81, 3) := by decide +kernel
theorem dX4_best_18 : decode cX4_best 18 = .ok (.istore_n 2, 1) := by decide +kernel
theorem dX4_best_19 : decode cX4_best 19 = .ok (.iconst (-1), 1) := by decide +kernel
theorem dX4_best_20 : decode cX4_best 20 = .ok (.istore_n 3, 1) := by decide +kernel
theorem dX4_best_21 : decode cX4_best 21 = .ok (.sipush 2000, 3) := by decide +kernel
theorem dX4_best_24 : decode cX4_best 24 = .ok (.istore 4, 2) := by decide +kernel
theorem dX4_best_26 : decode cX4_best 26 = .ok (.iconst 0, 1) := by decide +kernel
theorem dX4_best_27 : decode cX4_best 27 = .ok (.istore 5, 2) := by decide +kernel
theorem dX4_best_29 : decode cX4_best 29 = .ok (.iload 5, 2) := by decide +kernel
theorem dX4_best_31 : decode cX4_best 31 = .ok (.iload_n 2, 1) := by decide +kernel
theorem dX4_best_32 : decode cX4_best 32 = .ok (.if_icmp .ge 67, 3) := by decide +kernel
theorem dX4_best_35 : decode cX4_best 35 = .ok (.aload_n 0, 1) := by decide +kernel
theorem dX4_best_36 : decode cX4_best 36 = .ok (.getfield 38, 3) := by decide +kernel
theorem dX4_best_39 : decode cX4_best 39 = .ok (.aload_n 0, 1) := by decide +kernel
theorem dX4_best_40 : decode cX4_best 40 = .ok (.getfield 22, 3) := by decide +kernel
theorem dX4_best_43 : decode cX4_best 43 = .ok (.aload_n 0, 1) := by decide +kernel
theorem dX4_best_44 : decode cX4_best 44 = .ok (.getfield 26, 3) := by decide +kernel
theorem dX4_best_47 : decode cX4_best 47 = .ok (.aaload, 1) := by decide +kernel
theorem dX4_best_48 : decode cX4_best 48 = .ok (.aload_n 0, 1) := by decide +kernel
theorem dX4_best_49 : decode cX4_best 49 = .ok (.getfield 33, 3) := by decide +kernel
theorem dX4_best_52 : decode cX4_best 52 = .ok (.getfield 85, 3) := by decide +kernel
theorem dX4_best_55 : decode cX4_best 55 = .ok (.iload 5, 2) := by decide +kernel
theorem dX4_best_57 : decode cX4_best 57 = .ok (.iaload, 1) := by decide +kernel
theorem dX4_best_58 : decode cX4_best 58 = .ok (.invokevirtual 101, 3) := by decide +kernel
theorem dX4_best_61 : decode cX4_best 61 = .ok (.aload_n 0, 1) := by decide +kernel
theorem dX4_best_62 : decode cX4_best 62 = .ok (.aload_n 0, 1) := by decide +kernel
theorem dX4_best_63 : decode cX4_best 63 = .ok (.getfield 38, 3) := by decide +kernel
theorem dX4_best_66 : decode cX4_best 66 = .ok (.iload_n 1, 1) := by decide +kernel
theorem dX4_best_67 : decode cX4_best 67 = .ok (.iconst 1, 1) := by decide +kernel
theorem dX4_best_68 : decode cX4_best 68 = .ok (.isub, 1) := by decide +kernel
theorem dX4_best_69 : decode cX4_best 69 = .ok (.sipush (-2000), 3) := by decide +kernel
theorem dX4_best_72 : decode cX4_best 72 = .ok (.iload 4, 2) := by decide +kernel
theorem dX4_best_74 : decode cX4_best 74 = .ok (.invokevirtual 132, 3) := by decide +kernel
theorem dX4_best_77 : decode cX4_best 77 = .ok (.istore 6, 2) := by decide +kernel
theorem dX4_best_79 : decode cX4_best 79 = .ok (.iload 6, 2) := by decide +kernel
theorem dX4_best_81 : decode cX4_best 81 = .ok (.iload 4, 2) := by decide +kernel
theorem dX4_best_83 : decode cX4_best 83 = .ok (.if_icmp .ge 10, 3) := by decide +kernel
theorem dX4_best_86 : decode cX4_best 86 = .ok (.iload 6, 2) := by decide +kernel
theorem dX4_best_88 : decode cX4_best 88 = .ok (.istore 4, 2) := by decide +kernel
theorem dX4_best_90 : decode cX4_best 90 = .ok (.iload 5, 2) := by decide +kernel
theorem dX4_best_92 : decode cX4_best 92 = .ok (.istore_n 3, 1) := by decide +kernel
theorem dX4_best_93 : decode cX4_best 93 = .ok (.iinc 5 1, 3) := by decide +kernel
theorem dX4_best_96 : decode cX4_best 96 = .ok (.goto (-67), 3) := by decide +kernel
theorem dX4_best_99 : decode cX4_best 99 = .ok (.iload_n 3, 1) := by decide +kernel
theorem dX4_best_100 : decode cX4_best 100 = .ok (.ireturn, 1) := by decide +kernel
set_option maxRecDepth 20000 in
set_option maxRecDepth 100000 in
theorem ggX4_forgetGame_X2_copy : GoodIn wsX4_forgetGame wsX2_copy := goodIn_r _ [8, 9, 10, 11, 12, 13, 22, 23, 24, 25, 26] (by rfl) (by decide +kernel)
set_option maxRecDepth 20000 in
theorem gX4_forgetGame_X2_copy : GoodIn wsX4_forgetGame (wsV RX4 136 RX2 yX2_copy wsX2_copy) := goodIn_app (goodIn_of _ (by decide +kernel)) ggX4_forgetGame_X2_copy
theorem dX4_forgetGame_0 : decode cX4_forgetGame 0 = .ok (.aload_n 0, 1) := by decide +kernel
theorem dX4_forgetGame_1 : decode cX4_forgetGame 1 = .ok (.getfield 22, 3) := by decide +kernel
theorem dX4_forgetGame_4 : decode cX4_forgetGame 4 = .ok (.iconst 0, 1) := by decide +kernel
theorem dX4_forgetGame_5 : decode cX4_forgetGame 5 = .ok (.aaload, 1) := by decide +kernel
theorem dX4_forgetGame_6 : decode cX4_forgetGame 6 = .ok (.aload_n 0, 1) := by decide +kernel
theorem dX4_forgetGame_7 : decode cX4_forgetGame 7 = .ok (.getfield 22, 3) := by decide +kernel
theorem dX4_forgetGame_10 : decode cX4_forgetGame 10 = .ok (.aload_n 0, 1) := by decide +kernel
theorem dX4_forgetGame_11 : decode cX4_forgetGame 11 = .ok (.getfield 26, 3) := by decide +kernel
theorem dX4_forgetGame_14 : decode cX4_forgetGame 14 = .ok (.aaload, 1) := by decide +kernel
theorem dX4_forgetGame_15 : decode cX4_forgetGame 15 = .ok (.invokevirtual 136, 3) := by decide +kernel
theorem dX4_forgetGame_18 : decode cX4_forgetGame 18 = .ok (.aload_n 0, 1) := by decide +kernel
theorem dX4_forgetGame_19 : decode cX4_forgetGame 19 = .ok (.getfield 22, 3) := by decide +kernel
theorem dX4_forgetGame_22 : decode cX4_forgetGame 22 = .ok (.iconst 0, 1) := by decide +kernel
theorem dX4_forgetGame_23 : decode cX4_forgetGame 23 = .ok (.aaload, 1) := by decide +kernel
theorem dX4_forgetGame_24 : decode cX4_forgetGame 24 = .ok (.iconst 0, 1) := by decide +kernel
theorem dX4_forgetGame_25 : decode cX4_forgetGame 25 = .ok (.putfield 114, 3) := by decide +kernel
theorem dX4_forgetGame_28 : decode cX4_forgetGame 28 = .ok (.aload_n 0, 1) := by decide +kernel
theorem dX4_forgetGame_29 : decode cX4_forgetGame 29 = .ok (.iconst 0, 1) := by decide +kernel
theorem dX4_forgetGame_30 : decode cX4_forgetGame 30 = .ok (.putfield 26, 3) := by decide +kernel
theorem dX4_forgetGame_33 : decode cX4_forgetGame 33 = .ok (.return_, 1) := by decide +kernel
set_option maxRecDepth 20000 in
set_option maxRecDepth 100000 in
theorem ggX4_countWays_X3_listMoves : GoodIn wsX4_countWays wsX3_listMoves := goodIn_r _ [10, 11, 12, 13, 14, 15, 16, 17, 18, 19, 20, 21, 22, 9, 23, 24, 25, 26, 27, 28, 29, 30, 31, 32, 33, 34, 35, 36, 37, 38, 39, 40, 41, 42, 43, 44, 45, 46, 47, 48, 49, 50, 51, 52, 53, 54, 83, 84, 85, 86, 87, 88, 89, 90, 91] (by rfl) (by decide +kernel)
set_option maxRecDepth 20000 in
theorem gX4_countWays_X3_listMoves : GoodIn wsX4_countWays (wsV RX4 74 RX3 yX3_listMoves wsX3_listMoves) := goodIn_app (goodIn_of _ (by decide +kernel)) ggX4_countWays_X3_listMoves
set_option maxRecDepth 20000 in
set_option maxRecDepth 100000 in
theorem ggX4_countWays_X2_follow : GoodIn wsX4_countWays wsX2_follow := goodIn_r _ [58, 17, 40, 59, 18, 19, 60, 61, 62, 47, 63, 64, 65, 66, 67, 68, 69, 70, 85, 86, 87, 88, 89] (by rfl) (by decide +kernel)
set_option maxRecDepth 20000 in
theorem gX4_countWays_X2_follow : GoodIn wsX4_countWays (wsV RX4 101 RX2 yX2_follow wsX2_follow) := goodIn_app (goodIn_of _ (by decide +kernel)) ggX4_countWays_X2_follow
set_option maxRecDepth 20000 in
set_option maxRecDepth 100000 in
theorem ggX4_countWays_X4_countWays : GoodIn wsX4_countWays wsX4_countWays := goodIn_r _ [0, 1, 2, 3, 4, 5, 6, 7, 8, 9, 10, 11, 12, 13, 14, 15, 16, 17, 18, 19, 20, 21, 22, 23, 24, 25, 26, 27, 28, 29, 30, 31, 32, 33, 34, 35, 36, 37, 38, 39, 40, 41, 42, 43, 44, 45, 46, 47, 48, 49, 50, 51, 52, 53, 54, 55, 56, 57, 58, 59, 60, 61, 62, 63, 64, 65, 66, 67, 68, 69, 70, 71, 72, 73, 74, 75, 76, 77, 78, 79, 80, 81, 82, 83, 84, 85, 86, 87, 88, 89, 90, 91] (by rfl) (by decide +kernel)
set_option maxRecDepth 20000 in
theorem gX4_countWays_X4_countWays : GoodIn wsX4_countWays (wsV RX4 120 RX4 yX4_countWays wsX4_countWays) := goodIn_app (goodIn_of _ (by decide +kernel)) ggX4_countWays_X4_countWays
theorem dX4_countWays_0 : decode cX4_countWays 0 = .ok (.iload_n 2, 1) := by decide +kernel
theorem dX4_countWays_1 : decode cX4_countWays 1 = .ok (.ifCond .gt 5, 3) := by decide +kernel
theorem dX4_countWays_4 : decode cX4_countWays 4 = .ok (.iconst 1, 1) := by decide +kernel
theorem dX4_countWays_5 : decode cX4_countWays 5 = .ok (.ireturn, 1) := by decide +kernel
theorem dX4_countWays_6 : decode cX4_countWays 6 = .ok (.aload_n 0, 1) := by decide +kernel
theorem dX4_countWays_7 : decode cX4_countWays 7 = .ok (.getfield 42, 3) := by decide +kernel
theorem dX4_countWays_10 : decode cX4_countWays 10 = .ok (.iload_n 2, 1) := by decide +kernel
theorem dX4_countWays_11 : decode cX4_countWays 11 = .ok (.aaload, 1) := by decide +kernel
theorem dX4_countWays_12 : decode cX4_countWays 12 = .ok (.astore_n 3, 1) := by decide +kernel
theorem dX4_countWays_13 : decode cX4_countWays 13 = .ok (.aload_n 0, 1) := by decide +kernel
theorem dX4_countWays_14 : decode cX4_countWays 14 = .ok (.getfield 10, 3) := by decide +kernel
theorem dX4_countWays_17 : decode cX4_countWays 17 = .ok (.aload_n 1, 1) := by decide +kernel
theorem dX4_countWays_18 : decode cX4_countWays 18 = .ok (.aload_n 3, 1) := by decide +kernel
theorem dX4_countWays_19 : decode cX4_countWays 19 = .ok (.invokevirtual 74, 3) := by decide +kernel
theorem dX4_countWays_22 : decode cX4_countWays 22 = .ok (.iload_n 2, 1) := by decide +kernel
theorem dX4_countWays_23 : decode cX4_countWays 23 = .ok (.iconst 1, 1) := by decide +kernel
theorem dX4_countWays_24 : decode cX4_countWays 24 = .ok (.if_icmp .ne 8, 3) := by decide +kernel
theorem dX4_countWays_27 : decode cX4_countWays 27 = .ok (.aload_n 3, 1) := by decide +kernel
theorem dX4_countWays_28 : decode cX4_countWays 28 = .ok (.getfield 78, 3) := by decide +kernel
theorem dX4_countWays_31 : decode cX4_countWays 31 = .ok (.ireturn, 1) := by decide +kernel
theorem dX4_countWays_32 : decode cX4_countWays 32 = .ok (.aload_n 0, 1) := by decide +kernel
theorem dX4_countWays_33 : decode cX4_countWays 33 = .ok (.getfield 46, 3) := by decide +kernel
theorem dX4_countWays_36 : decode cX4_countWays 36 = .ok (.iload_n 2, 1) := by decide +kernel
theorem dX4_countWays_37 : decode cX4_countWays 37 = .ok (.iconst 1, 1) := by decide +kernel
theorem dX4_countWays_38 : decode cX4_countWays 38 = .ok (.isub, 1) := by decide +kernel
theorem dX4_countWays_39 : decode cX4_countWays 39 = .ok (.aaload, 1) := by decide +kernel
theorem dX4_countWays_40 : decode cX4_countWays 40 = .ok (.astore 4, 2) := by decide +kernel
theorem dX4_countWays_42 : decode cX4_countWays 42 = .ok (.iconst 0, 1) := by decide +kernel
theorem dX4_countWays_43 : decode cX4_countWays 43 = .ok (.istore 5, 2) := by decide +kernel
theorem dX4_countWays_45 : decode cX4_countWays 45 = .ok (.iconst 0, 1) := by decide +kernel
theorem dX4_countWays_46 : decode cX4_countWays 46 = .ok (.istore 6, 2) := by decide +kernel
theorem dX4_countWays_48 : decode cX4_countWays 48 = .ok (.iload 6, 2) := by decide +kernel
theorem dX4_countWays_50 : decode cX4_countWays 50 = .ok (.aload_n 3, 1) := by decide +kernel
theorem dX4_countWays_51 : decode cX4_countWays 51 = .ok (.getfield 78, 3) := by decide +kernel
theorem dX4_countWays_54 : decode cX4_countWays 54 = .ok (.if_icmp .ge 36, 3) := by decide +kernel
theorem dX4_countWays_57 : decode cX4_countWays 57 = .ok (.aload 4, 2) := by decide +kernel
theorem dX4_countWays_59 : decode cX4_countWays 59 = .ok (.aload_n 1, 1) := by decide +kernel
theorem dX4_countWays_60 : decode cX4_countWays 60 = .ok (.aload_n 3, 1) := by decide +kernel
theorem dX4_countWays_61 : decode cX4_countWays 61 = .ok (.getfield 85, 3) := by decide +kernel
theorem dX4_countWays_64 : decode cX4_countWays 64 = .ok (.iload 6, 2) := by decide +kernel
theorem dX4_countWays_66 : decode cX4_countWays 66 = .ok (.iaload, 1) := by decide +kernel
theorem dX4_countWays_67 : decode cX4_countWays 67 = .ok (.invokevirtual 101, 3) := by decide +kernel
theorem dX4_countWays_70 : decode cX4_countWays 70 = .ok (.iload 5, 2) := by decide +kernel
theorem dX4_countWays_72 : decode cX4_countWays 72 = .ok (.aload_n 0, 1) := by decide +kernel
theorem dX4_countWays_73 : decode cX4_countWays 73 = .ok (.aload 4, 2) := by decide +kernel
theorem dX4_countWays_75 : decode cX4_countWays 75 = .ok (.iload_n 2, 1) := by decide +kernel
theorem dX4_countWays_76 : decode cX4_countWays 76 = .ok (.iconst 1, 1) := by decide +kernel
theorem dX4_countWays_77 : decode cX4_countWays 77 = .ok (.isub, 1) := by decide +kernel
theorem dX4_countWays_78 : decode cX4_countWays 78 = .ok (.invokevirtual 120, 3) := by decide +kernel
theorem dX4_countWays_81 : decode cX4_countWays 81 = .ok (.iadd, 1) := by decide +kernel
theorem dX4_countWays_82 : decode cX4_countWays 82 = .ok (.istore 5, 2) := by decide +kernel
theorem dX4_countWays_84 : decode cX4_countWays 84 = .ok (.iinc 6 1, 3) := by decide +kernel
theorem dX4_countWays_87 : decode cX4_countWays 87 = .ok (.goto (-39), 3) := by decide +kernel
theorem dX4_countWays_90 : decode cX4_countWays 90 = .ok (.iload 5, 2) := by decide +kernel
theorem dX4_countWays_92 : decode cX4_countWays 92 = .ok (.ireturn, 1) := by decide +kernel
set_option maxRecDepth 20000 in
set_option maxRecDepth 100000 in
theorem ggX4_weigh_X2_isOneEach : GoodIn wsX4_weigh wsX2_isOneEach := goodIn_r _ [14, 15, 16, 17, 18, 19, 20, 21, 22, 23, 208, 209, 210, 211, 212] (by rfl) (by decide +kernel)
set_option maxRecDepth 20000 in
theorem gX4_weigh_X2_isOneEach : GoodIn wsX4_weigh (wsV RX4 124 RX2 yX2_isOneEach wsX2_isOneEach) := goodIn_app (goodIn_of _ (by decide +kernel)) ggX4_weigh_X2_isOneEach
set_option maxRecDepth 20000 in
set_option maxRecDepth 100000 in
theorem ggX4_weigh_X4_judge : GoodIn wsX4_weigh wsX4_judge := goodIn_r _ [28, 29, 30, 31, 32, 1, 33, 34, 35, 36, 37, 38, 39, 40, 41, 42, 43, 44, 45, 46, 47, 48, 13, 49, 50, 51, 52, 53, 54, 55, 56, 57, 58, 59, 60, 61, 62, 63, 64, 15, 16, 65, 66, 67, 68, 69, 70, 71, 72, 73, 74, 75, 76, 77, 78, 79, 80, 81, 82, 83, 84, 85, 86, 87, 88, 89, 90, 91, 92, 93, 94, 95, 96, 97, 98, 99, 100, 101, 102, 103, 104, 105, 106, 107, 108, 109, 110, 111, 112, 113, 114, 115, 116, 117, 118, 119, 120, 8, 121, 122, 123, 124, 125, 126, 127, 128, 129, 130, 131, 132, 133, 134, 135, 136, 137, 138, 139, 140, 141, 142, 143, 144, 145, 146, 147, 19, 148, 149, 150, 151, 152, 153, 154, 155, 156, 157, 158, 159, 160, 161, 162, 163, 164, 165, 166, 167, 168, 169, 170, 171, 172, 173, 174, 175, 198, 199, 200, 201, 202, 203, 204, 205, 213, 214, 215, 206, 207, 208, 209, 210, 211, 212, 216, 217] (by rfl) (by decide +kernel)
set_option maxRecDepth 20000 in
theorem gX4_weigh_X4_judge : GoodIn wsX4_weigh (wsV RX4 128 RX4 yX4_judge wsX4_judge) := goodIn_app (goodIn_of _ (by decide +kernel)) ggX4_weigh_X4_judge
set_option maxRecDepth 20000 in
set_option maxRecDepth 100000 in
theorem ggX4_weigh_X4_weighVerdict : GoodIn wsX4_weigh wsX4_weighVerdict := goodIn_r _ [178] (by rfl) (by decide +kernel)
set_option maxRecDepth 20000 in
theorem gX4_weigh_X4_weighVerdict : GoodIn wsX4_weigh (va_wsS RX4 140 yX4_weighVerdict wsX4_weighVerdict) := goodIn_app (goodIn_of _ (by decide +kernel)) ggX4_weigh_X4_weighVerdict
set_option maxRecDepth 20000 in
set_option maxRecDepth 100000 in
theorem ggX4_weigh_X3_canMove : GoodIn wsX4_weigh wsX3_canMove := goodIn_r _ [182, 78, 79, 80, 13, 81, 66, 15, 16, 183, 184, 185, 75, 186, 86, 87, 88, 89, 90, 91, 92, 93, 94, 95, 96, 97, 98, 99, 100, 101, 65, 102, 103, 104, 208, 209, 210, 211, 212, 216, 217] (by rfl) (by decide +kernel)
set_option maxRecDepth 20000 in
theorem gX4_weigh_X3_canMove : GoodIn wsX4_weigh (wsV RX4 110 RX3 yX3_canMove wsX3_canMove) := goodIn_app (goodIn_of _ (by decide +kernel)) ggX4_weigh_X3_canMove
set_option maxRecDepth 20000 in
set_option maxRecDepth 100000 in
theorem ggX4_weigh_X2_balance : GoodIn wsX4_weigh wsX2_balance := goodIn_r _ [190, 65, 191, 79, 80, 13, 81, 66, 15, 16, 17, 18, 19, 20, 21, 22, 23, 192, 91, 92, 93, 208, 209, 210, 211, 212] (by rfl) (by decide +kernel)
set_option maxRecDepth 20000 in
theorem gX4_weigh_X2_balance : GoodIn wsX4_weigh (wsV RX4 143 RX2 yX2_balance wsX2_balance) := goodIn_app (goodIn_of _ (by decide +kernel)) ggX4_weigh_X2_balance
set_option maxRecDepth 20000 in
set_option maxRecDepth 100000 in
theorem ggX4_weigh_X3_listMoves : GoodIn wsX4_weigh wsX3_listMoves := goodIn_r _ [76, 77, 78, 79, 80, 13, 81, 66, 15, 16, 82, 83, 84, 75, 85, 86, 87, 88, 89, 90, 91, 92, 93, 94, 95, 96, 97, 98, 99, 100, 101, 65, 102, 103, 104, 105, 106, 107, 46, 108, 109, 53, 110, 111, 112, 113, 206, 207, 208, 209, 210, 211, 212, 216, 217] (by rfl) (by decide +kernel)
set_option maxRecDepth 20000 in
theorem gX4_weigh_X3_listMoves : GoodIn wsX4_weigh (wsV RX4 74 RX3 yX3_listMoves wsX3_listMoves) := goodIn_app (goodIn_of _ (by decide +kernel)) ggX4_weigh_X3_listMoves
set_option maxRecDepth 20000 in
set_option maxRecDepth 100000 in
theorem ggX4_weigh_X2_follow : GoodIn wsX4_weigh wsX2_follow := goodIn_r _ [126, 66, 65, 127, 15, 16, 67, 128, 129, 46, 130, 131, 132, 133, 134, 135, 136, 137, 208, 209, 210, 211, 212] (by rfl) (by decide +kernel)
set_option maxRecDepth 20000 in
theorem gX4_weigh_X2_follow : GoodIn wsX4_weigh (wsV RX4 101 RX2 yX2_follow wsX2_follow) := goodIn_app (goodIn_of _ (by decide +kernel)) ggX4_weigh_X2_follow
set_option maxRecDepth 20000 in
set_option maxRecDepth 100000 in
theorem ggX4_weigh_X4_weigh : GoodIn wsX4_weigh wsX4_weigh := goodIn_r _ [0, 1, 2, 3, 4, 5, 6, 7, 8, 9, 10, 11, 12, 13, 14, 15, 16, 17, 18, 19, 20, 21, 22, 23, 24, 25, 26, 27, 28, 29, 30, 31, 32, 33, 34, 35, 36, 37, 38, 39, 40, 41, 42, 43, 44, 45, 46, 47, 48, 49, 50, 51, 52, 53, 54, 55, 56, 57, 58, 59, 60, 61, 62, 63, 64, 65, 66, 67, 68, 69, 70, 71, 72, 73, 74, 75, 76, 77, 78, 79, 80, 81, 82, 83, 84, 85, 86, 87, 88, 89, 90, 91, 92, 93, 94, 95, 96, 97, 98, 99, 100, 101, 102, 103, 104, 105, 106, 107, 108, 109, 110, 111, 112, 113, 114, 115, 116, 117, 118, 119, 120, 121, 122, 123, 124, 125, 126, 127, 128, 129, 130, 131, 132, 133, 134, 135, 136, 137, 138, 139, 140, 141, 142, 143, 144, 145, 146, 147, 148, 149, 150, 151, 152, 153, 154, 155, 156, 157, 158, 159, 160, 161, 162, 163, 164, 165, 166, 167, 168, 169, 170, 171, 172, 173, 174, 175, 176, 177, 178, 179, 180, 181, 182, 183, 184, 185, 186, 187, 188, 189, 190, 191, 192, 193, 194, 195, 196, 197, 198, 199, 200, 201, 202, 203, 204, 205, 206, 207, 208, 209, 210, 211, 212, 213, 214, 215, 216, 217] (by rfl) (by decide +kernel)
set_option maxRecDepth 20000 in
theorem gX4_weigh_X4_weigh : GoodIn wsX4_weigh (wsV RX4 132 RX4 yX4_weigh wsX4_weigh) := goodIn_app (goodIn_of _ (by decide +kernel)) ggX4_weigh_X4_weigh
theorem dX4_weigh_0 : decode cX4_weigh 0 = .ok (.aload_n 1, 1) := by decide +kernel
theorem dX4_weigh_1 : decode cX4_weigh 1 = .ok (.invokevirtual 124, 3) := by decide +kernel
theorem dX4_weigh_4 : decode cX4_weigh 4 = .ok (.ifCond .eq 12, 3) := by decide +kernel
theorem dX4_weigh_7 : decode cX4_weigh 7 = .ok (.aload_n 0, 1) := by decide +kernel
theorem dX4_weigh_8 : decode cX4_weigh 8 = .ok (.aload_n 1, 1) := by decide +kernel
theorem dX4_weigh_9 : decode cX4_weigh 9 = .ok (.invokevirtual 128, 3) := by decide +kernel
theorem dX4_weigh_12 : decode cX4_weigh 12 = .ok (.invokestatic 140, 3) := by decide +kernel
theorem dX4_weigh_15 : decode cX4_weigh 15 = .ok (.ireturn, 1) := by decide +kernel
theorem dX4_weigh_16 : decode cX4_weigh 16 = .ok (.iload_n 2, 1) := by decide +kernel
theorem dX4_weigh_17 : decode cX4_weigh 17 = .ok (.ifCond .gt 25, 3) := by decide +kernel
theorem dX4_weigh_20 : decode cX4_weigh 20 = .ok (.aload_n 0, 1) := by decide +kernel
theorem dX4_weigh_21 : decode cX4_weigh 21 = .ok (.getfield 10, 3) := by decide +kernel
theorem dX4_weigh_24 : decode cX4_weigh 24 = .ok (.aload_n 1, 1) := by decide +kernel
theorem dX4_weigh_25 : decode cX4_weigh 25 = .ok (.invokevirtual 110, 3) := by decide +kernel
theorem dX4_weigh_28 : decode cX4_weigh 28 = .ok (.ifCond .eq 10, 3) := by decide +kernel
theorem dX4_weigh_31 : decode cX4_weigh 31 = .ok (.aload_n 1, 1) := by decide +kernel
theorem dX4_weigh_32 : decode cX4_weigh 32 = .ok (.invokevirtual 143, 3) := by decide +kernel
theorem dX4_weigh_35 : decode cX4_weigh 35 = .ok (.goto 6, 3) := by decide +kernel
theorem dX4_weigh_38 : decode cX4_weigh 38 = .ok (.sipush (-1000), 3) := by decide +kernel
theorem dX4_weigh_41 : decode cX4_weigh 41 = .ok (.ireturn, 1) := by decide +kernel
theorem dX4_weigh_42 : decode cX4_weigh 42 = .ok (.aload_n 0, 1) := by decide +kernel
theorem dX4_weigh_43 : decode cX4_weigh 43 = .ok (.getfield 42, 3) := by decide +kernel
theorem dX4_weigh_46 : decode cX4_weigh 46 = .ok (.iload_n 2, 1) := by decide +kernel
theorem dX4_weigh_47 : decode cX4_weigh 47 = .ok (.aaload, 1) := by decide +kernel
theorem dX4_weigh_48 : decode cX4_weigh 48 = .ok (.astore 5, 2) := by decide +kernel
theorem dX4_weigh_50 : decode cX4_weigh 50 = .ok (.aload_n 0, 1) := by decide +kernel
theorem dX4_weigh_51 : decode cX4_weigh 51 = .ok (.getfield 10, 3) := by decide +kernel
theorem dX4_weigh_54 : decode cX4_weigh 54 = .ok (.aload_n 1, 1) := by decide +kernel
theorem dX4_weigh_55 : decode cX4_weigh 55 = .ok (.aload 5, 2) := by decide +kernel
theorem dX4_weigh_57 : decode cX4_weigh 57 = .ok (.invokevirtual 74, 3) := by decide +kernel
theorem dX4_weigh_60 : decode cX4_weigh 60 = .ok (.aload 5, 2) := by decide +kernel
theorem dX4_weigh_62 : decode cX4_weigh 62 = .ok (.getfield 78, 3) := by decide +kernel
theorem dX4_weigh_65 : decode cX4_weigh 65 = .ok (.ifCond .ne 7, 3) := by decide +kernel
theorem dX4_weigh_68 : decode cX4_weigh 68 = .ok (.sipush (-1000), 3) := by decide +kernel
theorem dX4_weigh_71 : decode cX4_weigh 71 = .ok (.ireturn, 1) := by decide +kernel
theorem dX4_weigh_72 : decode cX4_weigh 72 = .ok (.aload_n 0, 1) := by decide +kernel
theorem dX4_weigh_73 : decode cX4_weigh 73 = .ok (.getfield 46, 3) := by decide +kernel
theorem dX4_weigh_76 : decode cX4_weigh 76 = .ok (.iload_n 2, 1) := by decide +kernel
theorem dX4_weigh_77 : decode cX4_weigh 77 = .ok (.iconst 1, 1) := by decide +kernel
theorem dX4_weigh_78 : decode cX4_weigh 78 = .ok (.isub, 1) := by decide +kernel
theorem dX4_weigh_79 : decode cX4_weigh 79 = .ok (.aaload, 1) := by decide +kernel
theorem dX4_weigh_80 : decode cX4_weigh 80 = .ok (.astore 6, 2) := by decide +kernel
theorem dX4_weigh_82 : decode cX4_weigh 82 = .ok (.iload_n 3, 1) := by decide +kernel
theorem dX4_weigh_83 : decode cX4_weigh 83 = .ok (.istore 7, 2) := by decide +kernel
theorem dX4_weigh_85 : decode cX4_weigh 85 = .ok (.iconst 0, 1) := by decide +kernel
theorem dX4_weigh_86 : decode cX4_weigh 86 = .ok (.istore 8, 2) := by decide +kernel
theorem dX4_weigh_88 : decode cX4_weigh 88 = .ok (.iload 8, 2) := by decide +kernel
theorem dX4_weigh_90 : decode cX4_weigh 90 = .ok (.aload 5, 2) := by decide +kernel
theorem dX4_weigh_92 : decode cX4_weigh 92 = .ok (.getfield 78, 3) := by decide +kernel
theorem dX4_weigh_95 : decode cX4_weigh 95 = .ok (.if_icmp .ge 53, 3) := by decide +kernel
theorem dX4_weigh_98 : decode cX4_weigh 98 = .ok (.iload 7, 2) := by decide +kernel
theorem dX4_weigh_100 : decode cX4_weigh 100 = .ok (.iload 4, 2) := by decide +kernel
theorem dX4_weigh_102 : decode cX4_weigh 102 = .ok (.if_icmp .ge 46, 3) := by decide +kernel
theorem dX4_weigh_105 : decode cX4_weigh 105 = .ok (.aload 6, 2) := by decide +kernel
theorem dX4_weigh_107 : decode cX4_weigh 107 = .ok (.aload_n 1, 1) := by decide +kernel
theorem dX4_weigh_108 : decode cX4_weigh 108 = .ok (.aload 5, 2) := by decide +kernel
theorem dX4_weigh_110 : decode cX4_weigh 110 = .ok (.getfield 85, 3) := by decide +kernel
theorem dX4_weigh_113 : decode cX4_weigh 113 = .ok (.iload 8, 2) := by decide +kernel
theorem dX4_weigh_115 : decode cX4_weigh 115 = .ok (.iaload, 1) := by decide +kernel
theorem dX4_weigh_116 : decode cX4_weigh 116 = .ok (.invokevirtual 101, 3) := by decide +kernel
theorem dX4_weigh_119 : decode cX4_weigh 119 = .ok (.iload 7, 2) := by decide +kernel
theorem dX4_weigh_121 : decode cX4_weigh 121 = .ok (.aload_n 0, 1) := by decide +kernel
theorem dX4_weigh_122 : decode cX4_weigh 122 = .ok (.aload 6, 2) := by decide +kernel
theorem dX4_weigh_124 : decode cX4_weigh 124 = .ok (.iload_n 2, 1) := by decide +kernel
theorem dX4_weigh_125 : decode cX4_weigh 125 = .ok (.iconst 1, 1) := by decide +kernel
theorem dX4_weigh_126 : decode cX4_weigh 126 = .ok (.isub, 1) := by decide +kernel
theorem dX4_weigh_127 : decode cX4_weigh 127 = .ok (.iload 4, 2) := by decide +kernel
theorem dX4_weigh_129 : decode cX4_weigh 129 = .ok (.ineg, 1) := by decide +kernel
theorem dX4_weigh_130 : decode cX4_weigh 130 = .ok (.iload 7, 2) := by decide +kernel
theorem dX4_weigh_132 : decode cX4_weigh 132 = .ok (.ineg, 1) := by decide +kernel
theorem dX4_weigh_133 : decode cX4_weigh 133 = .ok (.invokevirtual 132, 3) := by decide +kernel
theorem dX4_weigh_136 : decode cX4_weigh 136 = .ok (.ineg, 1) := by decide +kernel
theorem dX4_weigh_137 : decode cX4_weigh 137 = .ok (.invokestatic 146, 3) := by decide +kernel
theorem dX4_weigh_140 : decode cX4_weigh 140 = .ok (.istore 7, 2) := by decide +kernel
theorem dX4_weigh_142 : decode cX4_weigh 142 = .ok (.iinc 8 1, 3) := by decide +kernel
theorem dX4_weigh_145 : decode cX4_weigh 145 = .ok (.goto (-57), 3) := by decide +kernel
theorem dX4_weigh_148 : decode cX4_weigh 148 = .ok (.iload 7, 2) := by decide +kernel
theorem dX4_weigh_150 : decode cX4_weigh 150 = .ok (.ireturn, 1) := by decide +kernel
theorem dX4_weighVerdict_0 : decode cX4_weighVerdict 0 = .ok (.iload_n 0, 1) := by decide +kernel
theorem dX4_weighVerdict_1 : decode cX4_weighVerdict 1 = .ok (.bipush (-100), 2) := by decide +kernel
theorem dX4_weighVerdict_3 : decode cX4_weighVerdict 3 = .ok (.if_icmp .ne 7, 3) := by decide +kernel
theorem dX4_weighVerdict_6 : decode cX4_weighVerdict 6 = .ok (.sipush (-1000), 3) := by decide +kernel
theorem dX4_weighVerdict_9 : decode cX4_weighVerdict 9 = .ok (.ireturn, 1) := by decide +kernel
theorem dX4_weighVerdict_10 : decode cX4_weighVerdict 10 = .ok (.iload_n 0, 1) := by decide +kernel
theorem dX4_weighVerdict_11 : decode cX4_weighVerdict 11 = .ok (.ifCond .le 9, 3) := by decide +kernel
theorem dX4_weighVerdict_14 : decode cX4_weighVerdict 14 = .ok (.sipush 1000, 3) := by decide +kernel
theorem dX4_weighVerdict_17 : decode cX4_weighVerdict 17 = .ok (.iload_n 0, 1) := by decide +kernel
theorem dX4_weighVerdict_18 : decode cX4_weighVerdict 18 = .ok (.isub, 1) := by decide +kernel
theorem dX4_weighVerdict_19 : decode cX4_weighVerdict 19 = .ok (.ireturn, 1) := by decide +kernel
theorem dX4_weighVerdict_20 : decode cX4_weighVerdict 20 = .ok (.iload_n 0, 1) := by decide +kernel
theorem dX4_weighVerdict_21 : decode cX4_weighVerdict 21 = .ok (.ifCond .ge 12, 3) := by decide +kernel
theorem dX4_weighVerdict_24 : decode cX4_weighVerdict 24 = .ok (.iload_n 0, 1) := by decide +kernel
theorem dX4_weighVerdict_25 : decode cX4_weighVerdict 25 = .ok (.ineg, 1) := by decide +kernel
theorem dX4_weighVerdict_26 : decode cX4_weighVerdict 26 = .ok (.sipush 1000, 3) := by decide +kernel
theorem dX4_weighVerdict_29 : decode cX4_weighVerdict 29 = .ok (.isub, 1) := by decide +kernel
theorem dX4_weighVerdict_30 : decode cX4_weighVerdict 30 = .ok (.goto 4, 3) := by decide +kernel
theorem dX4_weighVerdict_33 : decode cX4_weighVerdict 33 = .ok (.iconst 0, 1) := by decide +kernel
theorem dX4_weighVerdict_34 : decode cX4_weighVerdict 34 = .ok (.ireturn, 1) := by decide +kernel
set_option maxRecDepth 20000 in
set_option maxRecDepth 100000 in
theorem ggX4_judge_X0_init : GoodIn wsX4_judge wsX0_init := goodIn_r _ [8, 9, 10, 11, 12, 13, 14, 15, 16, 17, 18, 19, 20, 21, 22, 23, 24, 25, 26, 27, 28, 29, 30, 31, 32, 4, 33, 34, 35, 36, 37, 38, 39, 40, 41, 42, 43, 44, 45, 46, 47, 48, 49, 50, 51, 52, 53, 54, 55, 56, 57, 58, 59, 60, 61, 62, 63, 64, 65, 66, 67, 68, 69, 70, 71, 72, 73, 74, 75, 76, 77, 78, 79, 80, 81, 82, 83, 84, 85, 86, 87, 88, 89, 90, 91, 92, 93, 94, 95, 96, 97, 98, 99, 100, 101, 102, 103, 104, 105, 106, 107, 108, 109, 110, 111, 112, 113, 114, 115, 116, 117, 118, 119, 120, 121, 122, 123, 124, 125, 126, 127, 128, 129, 130, 131, 132, 133, 134, 135, 136, 137, 138, 139, 140, 141, 142, 143, 144, 145, 146, 147, 148, 149, 162, 163, 164, 165, 166, 167, 168, 169, 170, 171, 172, 173] (by rfl) (by decide +kernel)
set_option maxRecDepth 20000 in
theorem gX4_judge_X0_init : GoodIn wsX4_judge (wsX0_init) := ggX4_judge_X0_init
set_option maxRecDepth 20000 in
set_option maxRecDepth 100000 in
theorem ggX4_judge_X0_look : GoodIn wsX4_judge wsX0_look := goodIn_r _ [153, 13, 115, 116, 4, 117, 118, 55, 56, 22, 57, 42, 39, 40, 119, 120, 121, 122, 123, 124, 125, 126, 127, 128, 75, 76, 77, 41, 129, 67, 68, 69, 162, 163, 164, 167, 168, 169, 170, 171] (by rfl) (by decide +kernel)
set_option maxRecDepth 20000 in
theorem gX4_judge_X0_look : GoodIn wsX4_judge (wsV RX4 157 RX0 yX0_look wsX0_look) := goodIn_app (goodIn_of _ (by decide +kernel)) ggX4_judge_X0_look
theorem dX4_judge_0 : decode cX4_judge 0 = .ok (.aload_n 0, 1) := by decide +kernel
theorem dX4_judge_1 : decode cX4_judge 1 = .ok (.getfield 16, 3) := by decide +kernel
theorem dX4_judge_4 : decode cX4_judge 4 = .ok (.ifnonnull 18, 3) := by decide +kernel
theorem dX4_judge_7 : decode cX4_judge 7 = .ok (.aload_n 0, 1) := by decide +kernel
theorem dX4_judge_8 : decode cX4_judge 8 = .ok (.new 152, 3) := by decide +kernel
theorem dX4_judge_11 : decode cX4_judge 11 = .ok (.dup, 1) := by decide +kernel
theorem dX4_judge_12 : decode cX4_judge 12 = .ok (.aload_n 0, 1) := by decide +kernel
theorem dX4_judge_13 : decode cX4_judge 13 = .ok (.getfield 10, 3) := by decide +kernel
theorem dX4_judge_16 : decode cX4_judge 16 = .ok (.invokespecial 154, 3) := by decide +kernel
theorem dX4_judge_19 : decode cX4_judge 19 = .ok (.putfield 16, 3) := by decide +kernel
theorem dX4_judge_22 : decode cX4_judge 22 = .ok (.aload_n 0, 1) := by decide +kernel
theorem dX4_judge_23 : decode cX4_judge 23 = .ok (.getfield 16, 3) := by decide +kernel
theorem dX4_judge_26 : decode cX4_judge 26 = .ok (.aload_n 1, 1) := by decide +kernel
theorem dX4_judge_27 : decode cX4_judge 27 = .ok (.invokevirtual 157, 3) := by decide +kernel
theorem dX4_judge_30 : decode cX4_judge 30 = .ok (.ireturn, 1) := by decide +kernel
theorem dX4_isSquare_0 : decode cX4_isSquare 0 = .ok (.iload_n 0, 1) := by decide +kernel
theorem dX4_isSquare_1 : decode cX4_isSquare 1 = .ok (.ifCond .lt 13, 3) := by decide +kernel
theorem dX4_isSquare_4 : decode cX4_isSquare 4 = .ok (.iload_n 0, 1) := by decide +kernel
theorem dX4_isSquare_5 : decode cX4_isSquare 5 = .ok (.bipush 18, 2) := by decide +kernel
theorem dX4_isSquare_7 : decode cX4_isSquare 7 = .ok (.if_icmp .ge 7, 3) := by decide +kernel
theorem dX4_isSquare_10 : decode cX4_isSquare 10 = .ok (.iconst 1, 1) := by decide +kernel
theorem dX4_isSquare_11 : decode cX4_isSquare 11 = .ok (.goto 4, 3) := by decide +kernel
theorem dX4_isSquare_14 : decode cX4_isSquare 14 = .ok (.iconst 0, 1) := by decide +kernel
theorem dX4_isSquare_15 : decode cX4_isSquare 15 = .ok (.ireturn, 1) := by decide +kernel
theorem dX4_isDepth_0 : decode cX4_isDepth 0 = .ok (.iload_n 0, 1) := by decide +kernel
theorem dX4_isDepth_1 : decode cX4_isDepth 1 = .ok (.ifCond .lt 12, 3) := by decide +kernel
theorem dX4_isDepth_4 : decode cX4_isDepth 4 = .ok (.iload_n 0, 1) := by decide +kernel
theorem dX4_isDepth_5 : decode cX4_isDepth 5 = .ok (.iconst 4, 1) := by decide +kernel
theorem dX4_isDepth_6 : decode cX4_isDepth 6 = .ok (.if_icmp .gt 7, 3) := by decide +kernel
theorem dX4_isDepth_9 : decode cX4_isDepth 9 = .ok (.iconst 1, 1) := by decide +kernel
theorem dX4_isDepth_10 : decode cX4_isDepth 10 = .ok (.goto 4, 3) := by decide +kernel
theorem dX4_isDepth_13 : decode cX4_isDepth 13 = .ok (.iconst 0, 1) := by decide +kernel
theorem dX4_isDepth_14 : decode cX4_isDepth 14 = .ok (.ireturn, 1) := by decide +kernel
set_option maxRecDepth 20000 in
set_option maxRecDepth 100000 in
theorem ggX5_init_X5_reach : GoodIn wsX5_init wsX5_reach := goodIn_r _ [26, 27, 28, 25, 29] (by rfl) (by decide +kernel)
set_option maxRecDepth 20000 in
theorem gX5_init_X5_reach : GoodIn wsX5_init (va_wsS RX5 62 yX5_reach wsX5_reach) := goodIn_app (goodIn_of _ (by decide +kernel)) ggX5_init_X5_reach
set_option maxRecDepth 20000 in
set_option maxRecDepth 100000 in
theorem ggX5_init_X5_begin : GoodIn wsX5_init wsX5_begin := goodIn_r _ [33, 5, 6, 34, 35, 36, 37, 38, 39, 40, 41, 42, 43, 44, 45, 46, 47, 48, 49, 50, 51, 52, 53, 54, 55] (by rfl) (by decide +kernel)
set_option maxRecDepth 20000 in
theorem gX5_init_X5_begin : GoodIn wsX5_init (wsV RX5 66 RX5 yX5_begin wsX5_begin) := goodIn_app (goodIn_of _ (by decide +kernel)) ggX5_init_X5_begin
theorem dX5_init_0 : decode cX5_init 0 = .ok (.aload_n 0, 1) := by decide +kernel
theorem dX5_init_1 : decode cX5_init 1 = .ok (.invokespecial 1, 3) := by decide +kernel
theorem dX5_init_4 : decode cX5_init 4 = .ok (.aload_n 0, 1) := by decide +kernel
theorem dX5_init_5 : decode cX5_init 5 = .ok (.bipush 108, 2) := by decide +kernel
theorem dX5_init_7 : decode cX5_init 7 = .ok (.newarray .int, 2) := by decide +kernel
theorem dX5_init_9 : decode cX5_init 9 = .ok (.putfield 7, 3) := by decide +kernel
theorem dX5_init_12 : decode cX5_init 12 = .ok (.aload_n 0, 1) := by decide +kernel
theorem dX5_init_13 : decode cX5_init 13 = .ok (.bipush 6, 2) := by decide +kernel
theorem dX5_init_15 : decode cX5_init 15 = .ok (.newarray .int, 2) := by decide +kernel
theorem dX5_init_17 : decode cX5_init 17 = .ok (.putfield 13, 3) := by decide +kernel
theorem dX5_init_20 : decode cX5_init 20 = .ok (.aload_n 0, 1) := by decide +kernel
theorem dX5_init_21 : decode cX5_init 21 = .ok (.sipush 480, 3) := by decide +kernel
theorem dX5_init_24 : decode cX5_init 24 = .ok (.newarray .int, 2) := by decide +kernel
theorem dX5_init_26 : decode cX5_init 26 = .ok (.putfield 16, 3) := by decide +kernel
theorem dX5_init_29 : decode cX5_init 29 = .ok (.aload_n 0, 1) := by decide +kernel
theorem dX5_init_30 : decode cX5_init 30 = .ok (.bipush 6, 2) := by decide +kernel
theorem dX5_init_32 : decode cX5_init 32 = .ok (.newarray .int, 2) := by decide +kernel
theorem dX5_init_34 : decode cX5_init 34 = .ok (.putfield 19, 3) := by decide +kernel
theorem dX5_init_37 : decode cX5_init 37 = .ok (.aload_n 0, 1) := by decide +kernel
theorem dX5_init_38 : decode cX5_init 38 = .ok (.bipush 6, 2) := by decide +kernel
theorem dX5_init_40 : decode cX5_init 40 = .ok (.newarray .int, 2) := by decide +kernel
theorem dX5_init_42 : decode cX5_init 42 = .ok (.putfield 22, 3) := by decide +kernel
theorem dX5_init_45 : decode cX5_init 45 = .ok (.aload_n 0, 1) := by decide +kernel
theorem dX5_init_46 : decode cX5_init 46 = .ok (.bipush 6, 2) := by decide +kernel
theorem dX5_init_48 : decode cX5_init 48 = .ok (.newarray .int, 2) := by decide +kernel
theorem dX5_init_50 : decode cX5_init 50 = .ok (.putfield 25, 3) := by decide +kernel
theorem dX5_init_53 : decode cX5_init 53 = .ok (.aload_n 0, 1) := by decide +kernel
theorem dX5_init_54 : decode cX5_init 54 = .ok (.bipush 6, 2) := by decide +kernel
theorem dX5_init_56 : decode cX5_init 56 = .ok (.newarray .int, 2) := by decide +kernel
theorem dX5_init_58 : decode cX5_init 58 = .ok (.putfield 28, 3) := by decide +kernel
theorem dX5_init_61 : decode cX5_init 61 = .ok (.aload_n 0, 1) := by decide +kernel
theorem dX5_init_62 : decode cX5_init 62 = .ok (.bipush 72, 2) := by decide +kernel
theorem dX5_init_64 : decode cX5_init 64 = .ok (.newarray .int, 2) := by decide +kernel
theorem dX5_init_66 : decode cX5_init 66 = .ok (.putfield 31, 3) := by decide +kernel
theorem dX5_init_69 : decode cX5_init 69 = .ok (.aload_n 0, 1) := by decide +kernel
theorem dX5_init_70 : decode cX5_init 70 = .ok (.bipush 72, 2) := by decide +kernel
theorem dX5_init_72 : decode cX5_init 72 = .ok (.newarray .int, 2) := by decide +kernel
theorem dX5_init_74 : decode cX5_init 74 = .ok (.putfield 34, 3) := by decide +kernel
theorem dX5_init_77 : decode cX5_init 77 = .ok (.aload_n 0, 1) := by decide +kernel
theorem dX5_init_78 : decode cX5_init 78 = .ok (.bipush 8, 2) := by decide +kernel
theorem dX5_init_80 : decode cX5_init 80 = .ok (.newarray .int, 2) := by decide +kernel
theorem dX5_init_82 : decode cX5_init 82 = .ok (.putfield 37, 3) := by decide +kernel
theorem dX5_init_85 : decode cX5_init 85 = .ok (.aload_n 0, 1) := by decide +kernel
theorem dX5_init_86 : decode cX5_init 86 = .ok (.bipush 8, 2) := by decide +kernel
theorem dX5_init_88 : decode cX5_init 88 = .ok (.newarray .int, 2) := by decide +kernel
theorem dX5_init_90 : decode cX5_init 90 = .ok (.putfield 40, 3) := by decide +kernel
theorem dX5_init_93 : decode cX5_init 93 = .ok (.aload_n 0, 1) := by decide +kernel
