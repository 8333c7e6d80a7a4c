theorem dX0_init_1 : decode cX0_init 1 = .ok (.invokespecial 5, 3) := by decide +kernel
theorem dX0_init_4 : decode cX0_init 4 = .ok (.aload_n 0, 1) := by decide +kernel
theorem dX0_init_5 : decode cX0_init 5 = .ok (.sipush 1297, 3) := by decide +kernel
theorem dX0_init_8 : decode cX0_init 8 = .ok (.newarray .byte, 2) := by decide +kernel
theorem dX0_init_10 : decode cX0_init 10 = .ok (.putfield 11, 3) := by decide +kernel
theorem dX0_init_13 : decode cX0_init 13 = .ok (.aload_n 0, 1) := by decide +kernel
theorem dX0_init_14 : decode cX0_init 14 = .ok (.sipush 1296, 3) := by decide +kernel
theorem dX0_init_17 : decode cX0_init 17 = .ok (.newarray .byte, 2) := by decide +kernel
theorem dX0_init_19 : decode cX0_init 19 = .ok (.putfield 15, 3) := by decide +kernel
theorem dX0_init_22 : decode cX0_init 22 = .ok (.aload_n 0, 1) := by decide +kernel
theorem dX0_init_23 : decode cX0_init 23 = .ok (.sipush 5184, 3) := by decide +kernel
theorem dX0_init_26 : decode cX0_init 26 = .ok (.newarray .short, 2) := by decide +kernel
theorem dX0_init_28 : decode cX0_init 28 = .ok (.putfield 18, 3) := by decide +kernel
theorem dX0_init_31 : decode cX0_init 31 = .ok (.new 22, 3) := by decide +kernel
theorem dX0_init_34 : decode cX0_init 34 = .ok (.dup, 1) := by decide +kernel
theorem dX0_init_35 : decode cX0_init 35 = .ok (.invokespecial 24, 3) := by decide +kernel
theorem dX0_init_38 : decode cX0_init 38 = .ok (.astore_n 2, 1) := by decide +kernel
theorem dX0_init_39 : decode cX0_init 39 = .ok (.new 25, 3) := by decide +kernel
theorem dX0_init_42 : decode cX0_init 42 = .ok (.dup, 1) := by decide +kernel
theorem dX0_init_43 : decode cX0_init 43 = .ok (.invokespecial 27, 3) := by decide +kernel
theorem dX0_init_46 : decode cX0_init 46 = .ok (.astore_n 3, 1) := by decide +kernel
theorem dX0_init_47 : decode cX0_init 47 = .ok (.new 25, 3) := by decide +kernel
theorem dX0_init_50 : decode cX0_init 50 = .ok (.dup, 1) := by decide +kernel
theorem dX0_init_51 : decode cX0_init 51 = .ok (.invokespecial 27, 3) := by decide +kernel
theorem dX0_init_54 : decode cX0_init 54 = .ok (.astore 4, 2) := by decide +kernel
theorem dX0_init_56 : decode cX0_init 56 = .ok (.aload_n 0, 1) := by decide +kernel
theorem dX0_init_57 : decode cX0_init 57 = .ok (.getfield 11, 3) := by decide +kernel
theorem dX0_init_60 : decode cX0_init 60 = .ok (.sipush 1296, 3) := by decide +kernel
theorem dX0_init_63 : decode cX0_init 63 = .ok (.bipush (-100), 2) := by decide +kernel
theorem dX0_init_65 : decode cX0_init 65 = .ok (.bastore, 1) := by decide +kernel
theorem dX0_init_66 : decode cX0_init 66 = .ok (.iconst 0, 1) := by decide +kernel
theorem dX0_init_67 : decode cX0_init 67 = .ok (.istore 5, 2) := by decide +kernel
theorem dX0_init_69 : decode cX0_init 69 = .ok (.iload 5, 2) := by decide +kernel
theorem dX0_init_71 : decode cX0_init 71 = .ok (.sipush 1296, 3) := by decide +kernel
theorem dX0_init_74 : decode cX0_init 74 = .ok (.if_icmp .ge 34, 3) := by decide +kernel
theorem dX0_init_77 : decode cX0_init 77 = .ok (.aload_n 3, 1) := by decide +kernel
theorem dX0_init_78 : decode cX0_init 78 = .ok (.iload 5, 2) := by decide +kernel
theorem dX0_init_80 : decode cX0_init 80 = .ok (.invokestatic 28, 3) := by decide +kernel
theorem dX0_init_83 : decode cX0_init 83 = .ok (.ifCond .eq 19, 3) := by decide +kernel
theorem dX0_init_86 : decode cX0_init 86 = .ok (.aload_n 1, 1) := by decide +kernel
theorem dX0_init_87 : decode cX0_init 87 = .ok (.aload_n 3, 1) := by decide +kernel
theorem dX0_init_88 : decode cX0_init 88 = .ok (.aload_n 2, 1) := by decide +kernel
theorem dX0_init_89 : decode cX0_init 89 = .ok (.invokevirtual 32, 3) := by decide +kernel
theorem dX0_init_92 : decode cX0_init 92 = .ok (.aload_n 0, 1) := by decide +kernel
theorem dX0_init_93 : decode cX0_init 93 = .ok (.iload 5, 2) := by decide +kernel
theorem dX0_init_95 : decode cX0_init 95 = .ok (.aload_n 3, 1) := by decide +kernel
theorem dX0_init_96 : decode cX0_init 96 = .ok (.aload_n 2, 1) := by decide +kernel
theorem dX0_init_97 : decode cX0_init 97 = .ok (.aload 4, 2) := by decide +kernel
theorem dX0_init_99 : decode cX0_init 99 = .ok (.invokevirtual 38, 3) := by decide +kernel
theorem dX0_init_102 : decode cX0_init 102 = .ok (.iinc 5 1, 3) := by decide +kernel
theorem dX0_init_105 : decode cX0_init 105 = .ok (.goto (-36), 3) := by decide +kernel
theorem dX0_init_108 : decode cX0_init 108 = .ok (.aload_n 0, 1) := by decide +kernel
theorem dX0_init_109 : decode cX0_init 109 = .ok (.invokevirtual 42, 3) := by decide +kernel
theorem dX0_init_112 : decode cX0_init 112 = .ok (.return_, 1) := by decide +kernel
set_option maxRecDepth 20000 in
set_option maxRecDepth 100000 in
theorem ggX0_look_X0_number : GoodIn wsX0_look wsX0_number := goodIn_r _ [5, 6, 7, 8, 9, 10, 11, 12, 13, 14, 15, 4, 16, 17, 18, 19, 20, 21, 22, 23, 24, 25, 26, 27, 28, 29, 30, 31, 35, 36, 37, 38, 39] (by rfl) (by decide +kernel)
set_option maxRecDepth 20000 in
theorem gX0_look_X0_number : GoodIn wsX0_look (va_wsS RX0 45 yX0_number wsX0_number) := goodIn_app (goodIn_of _ (by decide +kernel)) ggX0_look_X0_number
theorem dX0_look_0 : decode cX0_look 0 = .ok (.aload_n 0, 1) := by decide +kernel
theorem dX0_look_1 : decode cX0_look 1 = .ok (.getfield 11, 3) := by decide +kernel
theorem dX0_look_4 : decode cX0_look 4 = .ok (.aload_n 1, 1) := by decide +kernel
theorem dX0_look_5 : decode cX0_look 5 = .ok (.invokestatic 45, 3) := by decide +kernel
theorem dX0_look_8 : decode cX0_look 8 = .ok (.baload, 1) := by decide +kernel
theorem dX0_look_9 : decode cX0_look 9 = .ok (.ireturn, 1) := by decide +kernel
set_option maxRecDepth 20000 in
set_option maxRecDepth 100000 in
theorem ggX0_arrange_X2_wipe : GoodIn wsX0_arrange wsX2_wipe := goodIn_r _ [6, 7, 8, 9, 10, 11, 16, 17, 18, 19, 20] (by rfl) (by decide +kernel)
set_option maxRecDepth 20000 in
theorem gX0_arrange_X2_wipe : GoodIn wsX0_arrange (wsV RX0 50 RX2 yX2_wipe wsX2_wipe) := goodIn_app (goodIn_of _ (by decide +kernel)) ggX0_arrange_X2_wipe
set_option maxRecDepth 20000 in
set_option maxRecDepth 100000 in
theorem ggX0_arrange_X2_place : GoodIn wsX0_arrange wsX2_place := goodIn_r _ [15, 7, 8, 9, 16, 17, 18, 19, 20] (by rfl) (by decide +kernel)
set_option maxRecDepth 20000 in
theorem gX0_arrange_X2_place : GoodIn wsX0_arrange (wsV RX0 53 RX2 yX2_place wsX2_place) := goodIn_app (goodIn_of _ (by decide +kernel)) ggX0_arrange_X2_place
theorem dX0_arrange_0 : decode cX0_arrange 0 = .ok (.iload_n 1, 1) := by decide +kernel
theorem dX0_arrange_1 : decode cX0_arrange 1 = .ok (.bipush 36, 2) := by decide +kernel
theorem dX0_arrange_3 : decode cX0_arrange 3 = .ok (.idiv, 1) := by decide +kernel
theorem dX0_arrange_4 : decode cX0_arrange 4 = .ok (.istore_n 2, 1) := by decide +kernel
theorem dX0_arrange_5 : decode cX0_arrange 5 = .ok (.iload_n 1, 1) := by decide +kernel
theorem dX0_arrange_6 : decode cX0_arrange 6 = .ok (.bipush 36, 2) := by decide +kernel
theorem dX0_arrange_8 : decode cX0_arrange 8 = .ok (.irem, 1) := by decide +kernel
theorem dX0_arrange_9 : decode cX0_arrange 9 = .ok (.istore_n 3, 1) := by decide +kernel
theorem dX0_arrange_10 : decode cX0_arrange 10 = .ok (.iconst 1, 1) := by decide +kernel
theorem dX0_arrange_11 : decode cX0_arrange 11 = .ok (.iload_n 2, 1) := by decide +kernel
theorem dX0_arrange_12 : decode cX0_arrange 12 = .ok (.bipush 18, 2) := by decide +kernel
theorem dX0_arrange_14 : decode cX0_arrange 14 = .ok (.irem, 1) := by decide +kernel
theorem dX0_arrange_15 : decode cX0_arrange 15 = .ok (.ishl, 1) := by decide +kernel
theorem dX0_arrange_16 : decode cX0_arrange 16 = .ok (.istore 4, 2) := by decide +kernel
theorem dX0_arrange_18 : decode cX0_arrange 18 = .ok (.iconst 1, 1) := by decide +kernel
theorem dX0_arrange_19 : decode cX0_arrange 19 = .ok (.iload_n 3, 1) := by decide +kernel
theorem dX0_arrange_20 : decode cX0_arrange 20 = .ok (.bipush 18, 2) := by decide +kernel
theorem dX0_arrange_22 : decode cX0_arrange 22 = .ok (.irem, 1) := by decide +kernel
theorem dX0_arrange_23 : decode cX0_arrange 23 = .ok (.ishl, 1) := by decide +kernel
theorem dX0_arrange_24 : decode cX0_arrange 24 = .ok (.istore 5, 2) := by decide +kernel
theorem dX0_arrange_26 : decode cX0_arrange 26 = .ok (.iload_n 2, 1) := by decide +kernel
theorem dX0_arrange_27 : decode cX0_arrange 27 = .ok (.bipush 18, 2) := by decide +kernel
theorem dX0_arrange_29 : decode cX0_arrange 29 = .ok (.if_icmp .lt 7, 3) := by decide +kernel
theorem dX0_arrange_32 : decode cX0_arrange 32 = .ok (.iconst 1, 1) := by decide +kernel
theorem dX0_arrange_33 : decode cX0_arrange 33 = .ok (.goto 4, 3) := by decide +kernel
theorem dX0_arrange_36 : decode cX0_arrange 36 = .ok (.iconst 0, 1) := by decide +kernel
theorem dX0_arrange_37 : decode cX0_arrange 37 = .ok (.istore 6, 2) := by decide +kernel
theorem dX0_arrange_39 : decode cX0_arrange 39 = .ok (.iload_n 3, 1) := by decide +kernel
theorem dX0_arrange_40 : decode cX0_arrange 40 = .ok (.bipush 18, 2) := by decide +kernel
theorem dX0_arrange_42 : decode cX0_arrange 42 = .ok (.if_icmp .lt 7, 3) := by decide +kernel
theorem dX0_arrange_45 : decode cX0_arrange 45 = .ok (.iconst 1, 1) := by decide +kernel
theorem dX0_arrange_46 : decode cX0_arrange 46 = .ok (.goto 4, 3) := by decide +kernel
theorem dX0_arrange_49 : decode cX0_arrange 49 = .ok (.iconst 0, 1) := by decide +kernel
theorem dX0_arrange_50 : decode cX0_arrange 50 = .ok (.istore 7, 2) := by decide +kernel
theorem dX0_arrange_52 : decode cX0_arrange 52 = .ok (.iload 6, 2) := by decide +kernel
theorem dX0_arrange_54 : decode cX0_arrange 54 = .ok (.ifCond .ne 15, 3) := by decide +kernel
theorem dX0_arrange_57 : decode cX0_arrange 57 = .ok (.iload 4, 2) := by decide +kernel
theorem dX0_arrange_59 : decode cX0_arrange 59 = .ok (.ldc 49, 2) := by decide +kernel
theorem dX0_arrange_61 : decode cX0_arrange 61 = .ok (.iand, 1) := by decide +kernel
theorem dX0_arrange_62 : decode cX0_arrange 62 = .ok (.ifCond .eq 7, 3) := by decide +kernel
theorem dX0_arrange_65 : decode cX0_arrange 65 = .ok (.iconst 1, 1) := by decide +kernel
theorem dX0_arrange_66 : decode cX0_arrange 66 = .ok (.goto 4, 3) := by decide +kernel
theorem dX0_arrange_69 : decode cX0_arrange 69 = .ok (.iconst 0, 1) := by decide +kernel
theorem dX0_arrange_70 : decode cX0_arrange 70 = .ok (.istore 8, 2) := by decide +kernel
theorem dX0_arrange_72 : decode cX0_arrange 72 = .ok (.iload 7, 2) := by decide +kernel
theorem dX0_arrange_74 : decode cX0_arrange 74 = .ok (.ifCond .ne 15, 3) := by decide +kernel
theorem dX0_arrange_77 : decode cX0_arrange 77 = .ok (.iload 5, 2) := by decide +kernel
theorem dX0_arrange_79 : decode cX0_arrange 79 = .ok (.bipush 7, 2) := by decide +kernel
theorem dX0_arrange_81 : decode cX0_arrange 81 = .ok (.iand, 1) := by decide +kernel
theorem dX0_arrange_82 : decode cX0_arrange 82 = .ok (.ifCond .eq 7, 3) := by decide +kernel
theorem dX0_arrange_85 : decode cX0_arrange 85 = .ok (.iconst 1, 1) := by decide +kernel
theorem dX0_arrange_86 : decode cX0_arrange 86 = .ok (.goto 4, 3) := by decide +kernel
theorem dX0_arrange_89 : decode cX0_arrange 89 = .ok (.iconst 0, 1) := by decide +kernel
theorem dX0_arrange_90 : decode cX0_arrange 90 = .ok (.istore 9, 2) := by decide +kernel
theorem dX0_arrange_92 : decode cX0_arrange 92 = .ok (.iload 4, 2) := by decide +kernel
theorem dX0_arrange_94 : decode cX0_arrange 94 = .ok (.iload 5, 2) := by decide +kernel
theorem dX0_arrange_96 : decode cX0_arrange 96 = .ok (.if_icmp .eq 13, 3) := by decide +kernel
theorem dX0_arrange_99 : decode cX0_arrange 99 = .ok (.iload 8, 2) := by decide +kernel
theorem dX0_arrange_101 : decode cX0_arrange 101 = .ok (.ifCond .ne 8, 3) := by decide +kernel
theorem dX0_arrange_104 : decode cX0_arrange 104 = .ok (.iload 9, 2) := by decide +kernel
theorem dX0_arrange_106 : decode cX0_arrange 106 = .ok (.ifCond .eq 5, 3) := by decide +kernel
theorem dX0_arrange_109 : decode cX0_arrange 109 = .ok (.iconst 0, 1) := by decide +kernel
theorem dX0_arrange_110 : decode cX0_arrange 110 = .ok (.ireturn, 1) := by decide +kernel
theorem dX0_arrange_111 : decode cX0_arrange 111 = .ok (.aload_n 0, 1) := by decide +kernel
theorem dX0_arrange_112 : decode cX0_arrange 112 = .ok (.invokevirtual 50, 3) := by decide +kernel
theorem dX0_arrange_115 : decode cX0_arrange 115 = .ok (.aload_n 0, 1) := by decide +kernel
theorem dX0_arrange_116 : decode cX0_arrange 116 = .ok (.iload 4, 2) := by decide +kernel
theorem dX0_arrange_118 : decode cX0_arrange 118 = .ok (.iload 6, 2) := by decide +kernel
theorem dX0_arrange_120 : decode cX0_arrange 120 = .ok (.ifCond .eq 7, 3) := by decide +kernel
theorem dX0_arrange_123 : decode cX0_arrange 123 = .ok (.iconst 2, 1) := by decide +kernel
theorem dX0_arrange_124 : decode cX0_arrange 124 = .ok (.goto 4, 3) := by decide +kernel
theorem dX0_arrange_127 : decode cX0_arrange 127 = .ok (.iconst 1, 1) := by decide +kernel
theorem dX0_arrange_128 : decode cX0_arrange 128 = .ok (.invokevirtual 53, 3) := by decide +kernel
theorem dX0_arrange_131 : decode cX0_arrange 131 = .ok (.aload_n 0, 1) := by decide +kernel
theorem dX0_arrange_132 : decode cX0_arrange 132 = .ok (.iload 5, 2) := by decide +kernel
theorem dX0_arrange_134 : decode cX0_arrange 134 = .ok (.iload 7, 2) := by decide +kernel
theorem dX0_arrange_136 : decode cX0_arrange 136 = .ok (.ifCond .eq 7, 3) := by decide +kernel
theorem dX0_arrange_139 : decode cX0_arrange 139 = .ok (.iconst 4, 1) := by decide +kernel
theorem dX0_arrange_140 : decode cX0_arrange 140 = .ok (.goto 4, 3) := by decide +kernel
theorem dX0_arrange_143 : decode cX0_arrange 143 = .ok (.iconst 3, 1) := by decide +kernel
theorem dX0_arrange_144 : decode cX0_arrange 144 = .ok (.invokevirtual 53, 3) := by decide +kernel
theorem dX0_arrange_147 : decode cX0_arrange 147 = .ok (.iconst 1, 1) := by decide +kernel
theorem dX0_arrange_148 : decode cX0_arrange 148 = .ok (.ireturn, 1) := by decide +kernel
set_option maxRecDepth 20000 in
set_option maxRecDepth 100000 in
theorem ggX0_number_X2_own : GoodIn wsX0_number wsX2_own := goodIn_r _ [5, 6, 7, 8, 28, 29, 30, 31, 32] (by rfl) (by decide +kernel)
set_option maxRecDepth 20000 in
theorem gX0_number_X2_own : GoodIn wsX0_number (wsV RX0 57 RX2 yX2_own wsX2_own) := goodIn_app (goodIn_of _ (by decide +kernel)) ggX0_number_X2_own
set_option maxRecDepth 20000 in
set_option maxRecDepth 100000 in
theorem ggX0_number_X0_kind : GoodIn wsX0_number wsX0_kind := goodIn_r _ [12, 13, 14, 15, 16, 17, 18, 19, 20, 21, 4, 22, 23, 28, 29, 30, 31, 32] (by rfl) (by decide +kernel)
set_option maxRecDepth 20000 in
theorem gX0_number_X0_kind : GoodIn wsX0_number (va_wsS RX0 61 yX0_kind wsX0_kind) := goodIn_app (goodIn_of _ (by decide +kernel)) ggX0_number_X0_kind
set_option maxRecDepth 20000 in
set_option maxRecDepth 100000 in
theorem ggX0_number_X2_others : GoodIn wsX0_number wsX2_others := goodIn_r _ [27, 6, 8, 7, 28, 29, 30, 31, 32] (by rfl) (by decide +kernel)
set_option maxRecDepth 20000 in
theorem gX0_number_X2_others : GoodIn wsX0_number (wsV RX0 65 RX2 yX2_others wsX2_others) := goodIn_app (goodIn_of _ (by decide +kernel)) ggX0_number_X2_others
theorem dX0_number_0 : decode cX0_number 0 = .ok (.aload_n 0, 1) := by decide +kernel
theorem dX0_number_1 : decode cX0_number 1 = .ok (.invokevirtual 57, 3) := by decide +kernel
theorem dX0_number_4 : decode cX0_number 4 = .ok (.ifCond .ne 7, 3) := by decide +kernel
theorem dX0_number_7 : decode cX0_number 7 = .ok (.sipush 1296, 3) := by decide +kernel
theorem dX0_number_10 : decode cX0_number 10 = .ok (.ireturn, 1) := by decide +kernel
theorem dX0_number_11 : decode cX0_number 11 = .ok (.aload_n 0, 1) := by decide +kernel
theorem dX0_number_12 : decode cX0_number 12 = .ok (.aload_n 0, 1) := by decide +kernel
theorem dX0_number_13 : decode cX0_number 13 = .ok (.invokevirtual 57, 3) := by decide +kernel
theorem dX0_number_16 : decode cX0_number 16 = .ok (.invokestatic 61, 3) := by decide +kernel
theorem dX0_number_19 : decode cX0_number 19 = .ok (.bipush 36, 2) := by decide +kernel
theorem dX0_number_21 : decode cX0_number 21 = .ok (.imul, 1) := by decide +kernel
theorem dX0_number_22 : decode cX0_number 22 = .ok (.aload_n 0, 1) := by decide +kernel
theorem dX0_number_23 : decode cX0_number 23 = .ok (.aload_n 0, 1) := by decide +kernel
theorem dX0_number_24 : decode cX0_number 24 = .ok (.invokevirtual 65, 3) := by decide +kernel
theorem dX0_number_27 : decode cX0_number 27 = .ok (.invokestatic 61, 3) := by decide +kernel
theorem dX0_number_30 : decode cX0_number 30 = .ok (.iadd, 1) := by decide +kernel
theorem dX0_number_31 : decode cX0_number 31 = .ok (.ireturn, 1) := by decide +kernel
set_option maxRecDepth 20000 in
set_option maxRecDepth 100000 in
theorem ggX0_kind_J6_numberOfTrailingZeros_0f7a4 : GoodIn wsX0_kind wsJ6_numberOfTrailingZeros_0f7a4 := goodIn_r _ [5, 6] (by rfl) (by decide +kernel)
set_option maxRecDepth 20000 in
theorem gX0_kind_J6_numberOfTrailingZeros_0f7a4 : GoodIn wsX0_kind (va_wsS RX0 68 yJ6_numberOfTrailingZeros_0f7a4 wsJ6_numberOfTrailingZeros_0f7a4) := goodIn_app (goodIn_of _ (by decide +kernel)) ggX0_kind_J6_numberOfTrailingZeros_0f7a4
set_option maxRecDepth 20000 in
set_option maxRecDepth 100000 in
theorem ggX0_kind_X2_isKing : GoodIn wsX0_kind wsX2_isKing := goodIn_r _ [11, 12, 13, 14, 15, 16, 17] (by rfl) (by decide +kernel)
set_option maxRecDepth 20000 in
theorem gX0_kind_X2_isKing : GoodIn wsX0_kind (wsV RX0 78 RX2 yX2_isKing wsX2_isKing) := goodIn_app (goodIn_of _ (by decide +kernel)) ggX0_kind_X2_isKing
theorem dX0_kind_0 : decode cX0_kind 0 = .ok (.iload_n 1, 1) := by decide +kernel
theorem dX0_kind_1 : decode cX0_kind 1 = .ok (.invokestatic 68, 3) := by decide +kernel
theorem dX0_kind_4 : decode cX0_kind 4 = .ok (.bipush 18, 2) := by decide +kernel
theorem dX0_kind_6 : decode cX0_kind 6 = .ok (.irem, 1) := by decide +kernel
theorem dX0_kind_7 : decode cX0_kind 7 = .ok (.istore_n 2, 1) := by decide +kernel
theorem dX0_kind_8 : decode cX0_kind 8 = .ok (.aload_n 0, 1) := by decide +kernel
theorem dX0_kind_9 : decode cX0_kind 9 = .ok (.getfield 74, 3) := by decide +kernel
theorem dX0_kind_12 : decode cX0_kind 12 = .ok (.ifCond .ne 7, 3) := by decide +kernel
theorem dX0_kind_15 : decode cX0_kind 15 = .ok (.iload_n 2, 1) := by decide +kernel
theorem dX0_kind_16 : decode cX0_kind 16 = .ok (.goto 7, 3) := by decide +kernel
theorem dX0_kind_19 : decode cX0_kind 19 = .ok (.bipush 17, 2) := by decide +kernel
theorem dX0_kind_21 : decode cX0_kind 21 = .ok (.iload_n 2, 1) := by decide +kernel
theorem dX0_kind_22 : decode cX0_kind 22 = .ok (.isub, 1) := by decide +kernel
theorem dX0_kind_23 : decode cX0_kind 23 = .ok (.istore_n 3, 1) := by decide +kernel
theorem dX0_kind_24 : decode cX0_kind 24 = .ok (.aload_n 0, 1) := by decide +kernel
theorem dX0_kind_25 : decode cX0_kind 25 = .ok (.iload_n 2, 1) := by decide +kernel
theorem dX0_kind_26 : decode cX0_kind 26 = .ok (.invokevirtual 78, 3) := by decide +kernel
theorem dX0_kind_29 : decode cX0_kind 29 = .ok (.ifCond .eq 10, 3) := by decide +kernel
theorem dX0_kind_32 : decode cX0_kind 32 = .ok (.bipush 18, 2) := by decide +kernel
theorem dX0_kind_34 : decode cX0_kind 34 = .ok (.iload_n 3, 1) := by decide +kernel
theorem dX0_kind_35 : decode cX0_kind 35 = .ok (.iadd, 1) := by decide +kernel
theorem dX0_kind_36 : decode cX0_kind 36 = .ok (.goto 4, 3) := by decide +kernel
theorem dX0_kind_39 : decode cX0_kind 39 = .ok (.iload_n 3, 1) := by decide +kernel
theorem dX0_kind_40 : decode cX0_kind 40 = .ok (.ireturn, 1) := by decide +kernel
set_option maxRecDepth 20000 in
set_option maxRecDepth 100000 in
theorem ggX0_note_X2_follow : GoodIn wsX0_note wsX2_follow := goodIn_r _ [14, 15, 16, 17, 18, 19, 20, 21, 22, 23, 24, 25, 26, 27, 28, 29, 30, 31, 62, 63, 64, 65, 66] (by rfl) (by decide +kernel)
set_option maxRecDepth 20000 in
theorem gX0_note_X2_follow : GoodIn wsX0_note (wsV RX0 95 RX2 yX2_follow wsX2_follow) := goodIn_app (goodIn_of _ (by decide +kernel)) ggX0_note_X2_follow
set_option maxRecDepth 20000 in
set_option maxRecDepth 100000 in
theorem ggX0_note_X0_number : GoodIn wsX0_note wsX0_number := goodIn_r _ [35, 36, 37, 38, 13, 39, 15, 18, 19, 40, 41, 34, 42, 43, 44, 45, 46, 47, 48, 49, 50, 51, 52, 16, 53, 54, 55, 56, 62, 63, 64, 65, 66] (by rfl) (by decide +kernel)
set_option maxRecDepth 20000 in
theorem gX0_note_X0_number : GoodIn wsX0_note (va_wsS RX0 45 yX0_number wsX0_number) := goodIn_app (goodIn_of _ (by decide +kernel)) ggX0_note_X0_number
theorem dX0_note_0 : decode cX0_note 0 = .ok (.aload_n 3, 1) := by decide +kernel
theorem dX0_note_1 : decode cX0_note 1 = .ok (.getfield 82, 3) := by decide +kernel
theorem dX0_note_4 : decode cX0_note 4 = .ok (.iconst 4, 1) := by decide +kernel
theorem dX0_note_5 : decode cX0_note 5 = .ok (.invokestatic 85, 3) := by decide +kernel
theorem dX0_note_8 : decode cX0_note 8 = .ok (.istore 5, 2) := by decide +kernel
theorem dX0_note_10 : decode cX0_note 10 = .ok (.iconst 0, 1) := by decide +kernel
theorem dX0_note_11 : decode cX0_note 11 = .ok (.istore 6, 2) := by decide +kernel
theorem dX0_note_13 : decode cX0_note 13 = .ok (.iload 6, 2) := by decide +kernel
theorem dX0_note_15 : decode cX0_note 15 = .ok (.iload 5, 2) := by decide +kernel
theorem dX0_note_17 : decode cX0_note 17 = .ok (.if_icmp .ge 39, 3) := by decide +kernel
theorem dX0_note_20 : decode cX0_note 20 = .ok (.aload 4, 2) := by decide +kernel
theorem dX0_note_22 : decode cX0_note 22 = .ok (.aload_n 2, 1) := by decide +kernel
theorem dX0_note_23 : decode cX0_note 23 = .ok (.aload_n 3, 1) := by decide +kernel
theorem dX0_note_24 : decode cX0_note 24 = .ok (.getfield 91, 3) := by decide +kernel
theorem dX0_note_27 : decode cX0_note 27 = .ok (.iload 6, 2) := by decide +kernel
theorem dX0_note_29 : decode cX0_note 29 = .ok (.iaload, 1) := by decide +kernel
theorem dX0_note_30 : decode cX0_note 30 = .ok (.invokevirtual 95, 3) := by decide +kernel
theorem dX0_note_33 : decode cX0_note 33 = .ok (.aload_n 0, 1) := by decide +kernel
theorem dX0_note_34 : decode cX0_note 34 = .ok (.getfield 18, 3) := by decide +kernel
theorem dX0_note_37 : decode cX0_note 37 = .ok (.iload_n 1, 1) := by decide +kernel
theorem dX0_note_38 : decode cX0_note 38 = .ok (.iconst 4, 1) := by decide +kernel
theorem dX0_note_39 : decode cX0_note 39 = .ok (.imul, 1) := by decide +kernel
theorem dX0_note_40 : decode cX0_note 40 = .ok (.iload 6, 2) := by decide +kernel
theorem dX0_note_42 : decode cX0_note 42 = .ok (.iadd, 1) := by decide +kernel
theorem dX0_note_43 : decode cX0_note 43 = .ok (.aload 4, 2) := by decide +kernel
theorem dX0_note_45 : decode cX0_note 45 = .ok (.invokestatic 45, 3) := by decide +kernel
theorem dX0_note_48 : decode cX0_note 48 = .ok (.i2s, 1) := by decide +kernel
theorem dX0_note_49 : decode cX0_note 49 = .ok (.sastore, 1) := by decide +kernel
theorem dX0_note_50 : decode cX0_note 50 = .ok (.iinc 6 1, 3) := by decide +kernel
theorem dX0_note_53 : decode cX0_note 53 = .ok (.goto (-40), 3) := by decide +kernel
theorem dX0_note_56 : decode cX0_note 56 = .ok (.aload_n 0, 1) := by decide +kernel
theorem dX0_note_57 : decode cX0_note 57 = .ok (.getfield 15, 3) := by decide +kernel
theorem dX0_note_60 : decode cX0_note 60 = .ok (.iload_n 1, 1) := by decide +kernel
theorem dX0_note_61 : decode cX0_note 61 = .ok (.iload 5, 2) := by decide +kernel
theorem dX0_note_63 : decode cX0_note 63 = .ok (.i2b, 1) := by decide +kernel
theorem dX0_note_64 : decode cX0_note 64 = .ok (.bastore, 1) := by decide +kernel
theorem dX0_note_65 : decode cX0_note 65 = .ok (.iload 5, 2) := by decide +kernel
theorem dX0_note_67 : decode cX0_note 67 = .ok (.ifCond .ne 11, 3) := by decide +kernel
theorem dX0_note_70 : decode cX0_note 70 = .ok (.aload_n 0, 1) := by decide +kernel
theorem dX0_note_71 : decode cX0_note 71 = .ok (.getfield 11, 3) := by decide +kernel
theorem dX0_note_74 : decode cX0_note 74 = .ok (.iload_n 1, 1) := by decide +kernel
theorem dX0_note_75 : decode cX0_note 75 = .ok (.bipush (-100), 2) := by decide +kernel
theorem dX0_note_77 : decode cX0_note 77 = .ok (.bastore, 1) := by decide +kernel
theorem dX0_note_78 : decode cX0_note 78 = .ok (.return_, 1) := by decide +kernel
set_option maxRecDepth 20000 in
set_option maxRecDepth 100000 in
theorem ggX0_settle_X0_findWins : GoodIn wsX0_settle wsX0_findWins := goodIn_r _ [5, 6, 7, 8, 9, 4, 10, 11, 12, 21, 22, 23] (by rfl) (by decide +kernel)
set_option maxRecDepth 20000 in
theorem gX0_settle_X0_findWins : GoodIn wsX0_settle (wsV RX0 99 RX0 yX0_findWins wsX0_findWins) := goodIn_app (goodIn_of _ (by decide +kernel)) ggX0_settle_X0_findWins
set_option maxRecDepth 20000 in
set_option maxRecDepth 100000 in
theorem ggX0_settle_X0_findLosses : GoodIn wsX0_settle wsX0_findLosses := goodIn_r _ [16, 6, 11, 17, 18, 19, 4, 20, 12, 21, 22, 23] (by rfl) (by decide +kernel)
set_option maxRecDepth 20000 in
theorem gX0_settle_X0_findLosses : GoodIn wsX0_settle (wsV RX0 102 RX0 yX0_findLosses wsX0_findLosses) := goodIn_app (goodIn_of _ (by decide +kernel)) ggX0_settle_X0_findLosses
theorem dX0_settle_0 : decode cX0_settle 0 = .ok (.iconst 1, 1) := by decide +kernel
theorem dX0_settle_1 : decode cX0_settle 1 = .ok (.istore_n 1, 1) := by decide +kernel
theorem dX0_settle_2 : decode cX0_settle 2 = .ok (.iconst 1, 1) := by decide +kernel
theorem dX0_settle_3 : decode cX0_settle 3 = .ok (.istore_n 2, 1) := by decide +kernel
theorem dX0_settle_4 : decode cX0_settle 4 = .ok (.iload_n 2, 1) := by decide +kernel
theorem dX0_settle_5 : decode cX0_settle 5 = .ok (.sipush 1296, 3) := by decide +kernel
theorem dX0_settle_8 : decode cX0_settle 8 = .ok (.if_icmp .ge 34, 3) := by decide +kernel
theorem dX0_settle_11 : decode cX0_settle 11 = .ok (.iload_n 1, 1) := by decide +kernel
theorem dX0_settle_12 : decode cX0_settle 12 = .ok (.ifCond .eq 30, 3) := by decide +kernel
theorem dX0_settle_15 : decode cX0_settle 15 = .ok (.iload_n 2, 1) := by decide +kernel
theorem dX0_settle_16 : decode cX0_settle 16 = .ok (.iconst 2, 1) := by decide +kernel
theorem dX0_settle_17 : decode cX0_settle 17 = .ok (.irem, 1) := by decide +kernel
theorem dX0_settle_18 : decode cX0_settle 18 = .ok (.iconst 1, 1) := by decide +kernel
theorem dX0_settle_19 : decode cX0_settle 19 = .ok (.if_icmp .ne 11, 3) := by decide +kernel
theorem dX0_settle_22 : decode cX0_settle 22 = .ok (.aload_n 0, 1) := by decide +kernel
theorem dX0_settle_23 : decode cX0_settle 23 = .ok (.iload_n 2, 1) := by decide +kernel
theorem dX0_settle_24 : decode cX0_settle 24 = .ok (.invokevirtual 99, 3) := by decide +kernel
theorem dX0_settle_27 : decode cX0_settle 27 = .ok (.goto 8, 3) := by decide +kernel
theorem dX0_settle_30 : decode cX0_settle 30 = .ok (.aload_n 0, 1) := by decide +kernel
theorem dX0_settle_31 : decode cX0_settle 31 = .ok (.iload_n 2, 1) := by decide +kernel
theorem dX0_settle_32 : decode cX0_settle 32 = .ok (.invokevirtual 102, 3) := by decide +kernel
theorem dX0_settle_35 : decode cX0_settle 35 = .ok (.istore_n 1, 1) := by decide +kernel
theorem dX0_settle_36 : decode cX0_settle 36 = .ok (.iinc 2 1, 3) := by decide +kernel
theorem dX0_settle_39 : decode cX0_settle 39 = .ok (.goto (-35), 3) := by decide +kernel
theorem dX0_settle_42 : decode cX0_settle 42 = .ok (.return_, 1) := by decide +kernel
set_option maxRecDepth 20000 in
set_option maxRecDepth 100000 in
theorem ggX0_findWins_X0_leadsToLoss : GoodIn wsX0_findWins wsX0_leadsToLoss := goodIn_r _ [6, 7, 1, 8, 9, 10, 11] (by rfl) (by decide +kernel)
set_option maxRecDepth 20000 in
theorem gX0_findWins_X0_leadsToLoss : GoodIn wsX0_findWins (wsV RX0 105 RX0 yX0_leadsToLoss wsX0_leadsToLoss) := goodIn_app (goodIn_of _ (by decide +kernel)) ggX0_findWins_X0_leadsToLoss
theorem dX0_findWins_0 : decode cX0_findWins 0 = .ok (.iconst 0, 1) := by decide +kernel
theorem dX0_findWins_1 : decode cX0_findWins 1 = .ok (.istore_n 2, 1) := by decide +kernel
theorem dX0_findWins_2 : decode cX0_findWins 2 = .ok (.iconst 0, 1) := by decide +kernel
theorem dX0_findWins_3 : decode cX0_findWins 3 = .ok (.istore_n 3, 1) := by decide +kernel
theorem dX0_findWins_4 : decode cX0_findWins 4 = .ok (.iload_n 3, 1) := by decide +kernel
theorem dX0_findWins_5 : decode cX0_findWins 5 = .ok (.sipush 1296, 3) := by decide +kernel
theorem dX0_findWins_8 : decode cX0_findWins 8 = .ok (.if_icmp .ge 36, 3) := by decide +kernel
theorem dX0_findWins_11 : decode cX0_findWins 11 = .ok (.aload_n 0, 1) := by decide +kernel
theorem dX0_findWins_12 : decode cX0_findWins 12 = .ok (.getfield 11, 3) := by decide +kernel
theorem dX0_findWins_15 : decode cX0_findWins 15 = .ok (.iload_n 3, 1) := by decide +kernel
theorem dX0_findWins_16 : decode cX0_findWins 16 = .ok (.baload, 1) := by decide +kernel
theorem dX0_findWins_17 : decode cX0_findWins 17 = .ok (.ifCond .ne 21, 3) := by decide +kernel
theorem dX0_findWins_20 : decode cX0_findWins 20 = .ok (.aload_n 0, 1) := by decide +kernel
theorem dX0_findWins_21 : decode cX0_findWins 21 = .ok (.iload_n 3, 1) := by decide +kernel
theorem dX0_findWins_22 : decode cX0_findWins 22 = .ok (.invokevirtual 105, 3) := by decide +kernel
theorem dX0_findWins_25 : decode cX0_findWins 25 = .ok (.ifCond .eq 13, 3) := by decide +kernel
theorem dX0_findWins_28 : decode cX0_findWins 28 = .ok (.aload_n 0, 1) := by decide +kernel
theorem dX0_findWins_29 : decode cX0_findWins 29 = .ok (.getfield 11, 3) := by decide +kernel
theorem dX0_findWins_32 : decode cX0_findWins 32 = .ok (.iload_n 3, 1) := by decide +kernel
theorem dX0_findWins_33 : decode cX0_findWins 33 = .ok (.iload_n 1, 1) := by decide +kernel
theorem dX0_findWins_34 : decode cX0_findWins 34 = .ok (.i2b, 1) := by decide +kernel
theorem dX0_findWins_35 : decode cX0_findWins 35 = .ok (.bastore, 1) := by decide +kernel
theorem dX0_findWins_36 : decode cX0_findWins 36 = .ok (.iconst 1, 1) := by decide +kernel
theorem dX0_findWins_37 : decode cX0_findWins 37 = .ok (.istore_n 2, 1) := by decide +kernel
theorem dX0_findWins_38 : decode cX0_findWins 38 = .ok (.iinc 3 1, 3) := by decide +kernel
theorem dX0_findWins_41 : decode cX0_findWins 41 = .ok (.goto (-37), 3) := by decide +kernel
theorem dX0_findWins_44 : decode cX0_findWins 44 = .ok (.iload_n 2, 1) := by decide +kernel
theorem dX0_findWins_45 : decode cX0_findWins 45 = .ok (.ireturn, 1) := by decide +kernel
set_option maxRecDepth 20000 in
set_option maxRecDepth 100000 in
theorem ggX0_findLosses_X0_leadsToWinsAlone : GoodIn wsX0_findLosses wsX0_leadsToWinsAlone := goodIn_r _ [7, 2, 1, 8, 9, 10, 11] (by rfl) (by decide +kernel)
set_option maxRecDepth 20000 in
theorem gX0_findLosses_X0_leadsToWinsAlone : GoodIn wsX0_findLosses (wsV RX0 108 RX0 yX0_leadsToWinsAlone wsX0_leadsToWinsAlone) := goodIn_app (goodIn_of _ (by decide +kernel)) ggX0_findLosses_X0_leadsToWinsAlone
theorem dX0_findLosses_0 : decode cX0_findLosses 0 = .ok (.iconst 0, 1) := by decide +kernel
theorem dX0_findLosses_1 : decode cX0_findLosses 1 = .ok (.istore_n 2, 1) := by decide +kernel
theorem dX0_findLosses_2 : decode cX0_findLosses 2 = .ok (.iconst 0, 1) := by decide +kernel
theorem dX0_findLosses_3 : decode cX0_findLosses 3 = .ok (.istore_n 3, 1) := by decide +kernel
theorem dX0_findLosses_4 : decode cX0_findLosses 4 = .ok (.iload_n 3, 1) := by decide +kernel
theorem dX0_findLosses_5 : decode cX0_findLosses 5 = .ok (.sipush 1296, 3) := by decide +kernel
theorem dX0_findLosses_8 : decode cX0_findLosses 8 = .ok (.if_icmp .ge 46, 3) := by decide +kernel
theorem dX0_findLosses_11 : decode cX0_findLosses 11 = .ok (.aload_n 0, 1) := by decide +kernel
theorem dX0_findLosses_12 : decode cX0_findLosses 12 = .ok (.getfield 11, 3) := by decide +kernel
theorem dX0_findLosses_15 : decode cX0_findLosses 15 = .ok (.iload_n 3, 1) := by decide +kernel
theorem dX0_findLosses_16 : decode cX0_findLosses 16 = .ok (.baload, 1) := by decide +kernel
theorem dX0_findLosses_17 : decode cX0_findLosses 17 = .ok (.ifCond .ne 31, 3) := by decide +kernel
theorem dX0_findLosses_20 : decode cX0_findLosses 20 = .ok (.aload_n 0, 1) := by decide +kernel
theorem dX0_findLosses_21 : decode cX0_findLosses 21 = .ok (.getfield 15, 3) := by decide +kernel
theorem dX0_findLosses_24 : decode cX0_findLosses 24 = .ok (.iload_n 3, 1) := by decide +kernel
theorem dX0_findLosses_25 : decode cX0_findLosses 25 = .ok (.baload, 1) := by decide +kernel
theorem dX0_findLosses_26 : decode cX0_findLosses 26 = .ok (.ifCond .le 22, 3) := by decide +kernel
theorem dX0_findLosses_29 : decode cX0_findLosses 29 = .ok (.aload_n 0, 1) := by decide +kernel
theorem dX0_findLosses_30 : decode cX0_findLosses 30 = .ok (.iload_n 3, 1) := by decide +kernel
theorem dX0_findLosses_31 : decode cX0_findLosses 31 = .ok (.invokevirtual 108, 3) := by decide +kernel
theorem dX0_findLosses_34 : decode cX0_findLosses 34 = .ok (.ifCond .eq 14, 3) := by decide +kernel
theorem dX0_findLosses_37 : decode cX0_findLosses 37 = .ok (.aload_n 0, 1) := by decide +kernel
theorem dX0_findLosses_38 : decode cX0_findLosses 38 = .ok (.getfield 11, 3) := by decide +kernel
theorem dX0_findLosses_41 : decode cX0_findLosses 41 = .ok (.iload_n 3, 1) := by decide +kernel
theorem dX0_findLosses_42 : decode cX0_findLosses 42 = .ok (.iload_n 1, 1) := by decide +kernel
theorem dX0_findLosses_43 : decode cX0_findLosses 43 = .ok (.ineg, 1) := by decide +kernel
theorem dX0_findLosses_44 : decode cX0_findLosses 44 = .ok (.i2b, 1) := by decide +kernel
theorem dX0_findLosses_45 : decode cX0_findLosses 45 = .ok (.bastore, 1) := by decide +kernel
theorem dX0_findLosses_46 : decode cX0_findLosses 46 = .ok (.iconst 1, 1) := by decide +kernel
theorem dX0_findLosses_47 : decode cX0_findLosses 47 = .ok (.istore_n 2, 1) := by decide +kernel
theorem dX0_findLosses_48 : decode cX0_findLosses 48 = .ok (.iinc 3 1, 3) := by decide +kernel
theorem dX0_findLosses_51 : decode cX0_findLosses 51 = .ok (.goto (-47), 3) := by decide +kernel
theorem dX0_findLosses_54 : decode cX0_findLosses 54 = .ok (.iload_n 2, 1) := by decide +kernel
theorem dX0_findLosses_55 : decode cX0_findLosses 55 = .ok (.ireturn, 1) := by decide +kernel
theorem dX0_leadsToLoss_0 : decode cX0_leadsToLoss 0 = .ok (.iconst 0, 1) := by decide +kernel
theorem dX0_leadsToLoss_1 : decode cX0_leadsToLoss 1 = .ok (.istore_n 2, 1) := by decide +kernel
theorem dX0_leadsToLoss_2 : decode cX0_leadsToLoss 2 = .ok (.iload_n 2, 1) := by decide +kernel
theorem dX0_leadsToLoss_3 : decode cX0_leadsToLoss 3 = .ok (.aload_n 0, 1) := by decide +kernel
theorem dX0_leadsToLoss_4 : decode cX0_leadsToLoss 4 = .ok (.getfield 15, 3) := by decide +kernel
theorem dX0_leadsToLoss_7 : decode cX0_leadsToLoss 7 = .ok (.iload_n 1, 1) := by decide +kernel
theorem dX0_leadsToLoss_8 : decode cX0_leadsToLoss 8 = .ok (.baload, 1) := by decide +kernel
theorem dX0_leadsToLoss_9 : decode cX0_leadsToLoss 9 = .ok (.if_icmp .ge 29, 3) := by decide +kernel
theorem dX0_leadsToLoss_12 : decode cX0_leadsToLoss 12 = .ok (.aload_n 0, 1) := by decide +kernel
theorem dX0_leadsToLoss_13 : decode cX0_leadsToLoss 13 = .ok (.getfield 11, 3) := by decide +kernel
theorem dX0_leadsToLoss_16 : decode cX0_leadsToLoss 16 = .ok (.aload_n 0, 1) := by decide +kernel
theorem dX0_leadsToLoss_17 : decode cX0_leadsToLoss 17 = .ok (.getfield 18, 3) := by decide +kernel
theorem dX0_leadsToLoss_20 : decode cX0_leadsToLoss 20 = .ok (.iload_n 1, 1) := by decide +kernel
theorem dX0_leadsToLoss_21 : decode cX0_leadsToLoss 21 = .ok (.iconst 4, 1) := by decide +kernel
theorem dX0_leadsToLoss_22 : decode cX0_leadsToLoss 22 = .ok (.imul, 1) := by decide +kernel
theorem dX0_leadsToLoss_23 : decode cX0_leadsToLoss 23 = .ok (.iload_n 2, 1) := by decide +kernel
theorem dX0_leadsToLoss_24 : decode cX0_leadsToLoss 24 = .ok (.iadd, 1) := by decide +kernel
theorem dX0_leadsToLoss_25 : decode cX0_leadsToLoss 25 = .ok (.saload, 1) := by decide +kernel
theorem dX0_leadsToLoss_26 : decode cX0_leadsToLoss 26 = .ok (.baload, 1) := by decide +kernel
theorem dX0_leadsToLoss_27 : decode cX0_leadsToLoss 27 = .ok (.ifCond .ge 5, 3) := by decide +kernel
theorem dX0_leadsToLoss_30 : decode cX0_leadsToLoss 30 = .ok (.iconst 1, 1) := by decide +kernel
theorem dX0_leadsToLoss_31 : decode cX0_leadsToLoss 31 = .ok (.ireturn, 1) := by decide +kernel
theorem dX0_leadsToLoss_32 : decode cX0_leadsToLoss 32 = .ok (.iinc 2 1, 3) := by decide +kernel
theorem dX0_leadsToLoss_35 : decode cX0_leadsToLoss 35 = .ok (.goto (-33), 3) := by decide +kernel
theorem dX0_leadsToLoss_38 : decode cX0_leadsToLoss 38 = .ok (.iconst 0, 1) := by decide +kernel
theorem dX0_leadsToLoss_39 : decode cX0_leadsToLoss 39 = .ok (.ireturn, 1) := by decide +kernel
theorem dX0_leadsToWinsAlone_0 : decode cX0_leadsToWinsAlone 0 = .ok (.iconst 0, 1) := by decide +kernel
theorem dX0_leadsToWinsAlone_1 : decode cX0_leadsToWinsAlone 1 = .ok (.istore_n 2, 1) := by decide +kernel
theorem dX0_leadsToWinsAlone_2 : decode cX0_leadsToWinsAlone 2 = .ok (.iload_n 2, 1) := by decide +kernel
theorem dX0_leadsToWinsAlone_3 : decode cX0_leadsToWinsAlone 3 = .ok (.aload_n 0, 1) := by decide +kernel
theorem dX0_leadsToWinsAlone_4 : decode cX0_leadsToWinsAlone 4 = .ok (.getfield 15, 3) := by decide +kernel
theorem dX0_leadsToWinsAlone_7 : decode cX0_leadsToWinsAlone 7 = .ok (.iload_n 1, 1) := by decide +kernel
theorem dX0_leadsToWinsAlone_8 : decode cX0_leadsToWinsAlone 8 = .ok (.baload, 1) := by decide +kernel
theorem dX0_leadsToWinsAlone_9 : decode cX0_leadsToWinsAlone 9 = .ok (.if_icmp .ge 29, 3) := by decide +kernel
theorem dX0_leadsToWinsAlone_12 : decode cX0_leadsToWinsAlone 12 = .ok (.aload_n 0, 1) := by decide +kernel
theorem dX0_leadsToWinsAlone_13 : decode cX0_leadsToWinsAlone 13 = .ok (.getfield 11, 3) := by decide +kernel
theorem dX0_leadsToWinsAlone_16 : decode cX0_leadsToWinsAlone 16 = .ok (.aload_n 0, 1) := by decide +kernel
theorem dX0_leadsToWinsAlone_17 : decode cX0_leadsToWinsAlone 17 = .ok (.getfield 18, 3) := by decide +kernel
theorem dX0_leadsToWinsAlone_20 : decode cX0_leadsToWinsAlone 20 = .ok (.iload_n 1, 1) := by decide +kernel
theorem dX0_leadsToWinsAlone_21 : decode cX0_leadsToWinsAlone 21 = .ok (.iconst 4, 1) := by decide +kernel
theorem dX0_leadsToWinsAlone_22 : decode cX0_leadsToWinsAlone 22 = .ok (.imul, 1) := by decide +kernel
theorem dX0_leadsToWinsAlone_23 : decode cX0_leadsToWinsAlone 23 = .ok (.iload_n 2, 1) := by decide +kernel
theorem dX0_leadsToWinsAlone_24 : decode cX0_leadsToWinsAlone 24 = .ok (.iadd, 1) := by decide +kernel
theorem dX0_leadsToWinsAlone_25 : decode cX0_leadsToWinsAlone 25 = .ok (.saload, 1) := by decide +kernel
theorem dX0_leadsToWinsAlone_26 : decode cX0_leadsToWinsAlone 26 = .ok (.baload, 1) := by decide +kernel
theorem dX0_leadsToWinsAlone_27 : decode cX0_leadsToWinsAlone 27 = .ok (.ifCond .gt 5, 3) := by decide +kernel
theorem dX0_leadsToWinsAlone_30 : decode cX0_leadsToWinsAlone 30 = .ok (.iconst 0, 1) := by decide +kernel
theorem dX0_leadsToWinsAlone_31 : decode cX0_leadsToWinsAlone 31 = .ok (.ireturn, 1) := by decide +kernel
theorem dX0_leadsToWinsAlone_32 : decode cX0_leadsToWinsAlone 32 = .ok (.iinc 2 1, 3) := by decide +kernel
theorem dX0_leadsToWinsAlone_35 : decode cX0_leadsToWinsAlone 35 = .ok (.goto (-33), 3) := by decide +kernel
theorem dX0_leadsToWinsAlone_38 : decode cX0_leadsToWinsAlone 38 = .ok (.iconst 1, 1) := by decide +kernel
theorem dX0_leadsToWinsAlone_39 : decode cX0_leadsToWinsAlone 39 = .ok (.ireturn, 1) := by decide +kernel
theorem dX1_init_0 : decode cX1_init 0 = .ok (.aload_n 0, 1) := by decide +kernel
theorem dX1_init_1 : decode cX1_init 1 = .ok (.invokespecial 3, 3) := by decide +kernel
theorem dX1_init_4 : decode cX1_init 4 = .ok (.aload_n 0, 1) := by decide +kernel
theorem dX1_init_5 : decode cX1_init 5 = .ok (.bipush 72, 2) := by decide +kernel
theorem dX1_init_7 : decode cX1_init 7 = .ok (.newarray .int, 2) := by decide +kernel
theorem dX1_init_9 : decode cX1_init 9 = .ok (.putfield 11, 3) := by decide +kernel
theorem dX1_init_12 : decode cX1_init 12 = .ok (.return_, 1) := by decide +kernel
theorem dX1_beginning_0 : decode cX1_beginning 0 = .ok (.iload_n 0, 1) := by decide +kernel
theorem dX1_beginning_1 : decode cX1_beginning 1 = .ok (.bipush 23, 2) := by decide +kernel
theorem dX1_beginning_3 : decode cX1_beginning 3 = .ok (.ishr, 1) := by decide +kernel
theorem dX1_beginning_4 : decode cX1_beginning 4 = .ok (.bipush 31, 2) := by decide +kernel
theorem dX1_beginning_6 : decode cX1_beginning 6 = .ok (.iand, 1) := by decide +kernel
theorem dX1_beginning_7 : decode cX1_beginning 7 = .ok (.ireturn, 1) := by decide +kernel
theorem dX1_end_0 : decode cX1_end 0 = .ok (.iload_n 0, 1) := by decide +kernel
theorem dX1_end_1 : decode cX1_end 1 = .ok (.bipush 18, 2) := by decide +kernel
theorem dX1_end_3 : decode cX1_end 3 = .ok (.ishr, 1) := by decide +kernel
theorem dX1_end_4 : decode cX1_end 4 = .ok (.bipush 31, 2) := by decide +kernel
theorem dX1_end_6 : decode cX1_end 6 = .ok (.iand, 1) := by decide +kernel
theorem dX1_end_7 : decode cX1_end 7 = .ok (.ireturn, 1) := by decide +kernel
theorem dX1_taken_0 : decode cX1_taken 0 = .ok (.iload_n 0, 1) := by decide +kernel
theorem dX1_taken_1 : decode cX1_taken 1 = .ok (.ldc 15, 2) := by decide +kernel
theorem dX1_taken_3 : decode cX1_taken 3 = .ok (.iand, 1) := by decide +kernel
theorem dX1_taken_4 : decode cX1_taken 4 = .ok (.ireturn, 1) := by decide +kernel
theorem dX1_enter_0 : decode cX1_enter 0 = .ok (.iload_n 1, 1) := by decide +kernel
theorem dX1_enter_1 : decode cX1_enter 1 = .ok (.bipush 23, 2) := by decide +kernel
theorem dX1_enter_3 : decode cX1_enter 3 = .ok (.ishl, 1) := by decide +kernel
theorem dX1_enter_4 : decode cX1_enter 4 = .ok (.iload_n 2, 1) := by decide +kernel
theorem dX1_enter_5 : decode cX1_enter 5 = .ok (.bipush 18, 2) := by decide +kernel
theorem dX1_enter_7 : decode cX1_enter 7 = .ok (.ishl, 1) := by decide +kernel
theorem dX1_enter_8 : decode cX1_enter 8 = .ok (.ior, 1) := by decide +kernel
theorem dX1_enter_9 : decode cX1_enter 9 = .ok (.iload_n 3, 1) := by decide +kernel
theorem dX1_enter_10 : decode cX1_enter 10 = .ok (.ior, 1) := by decide +kernel
theorem dX1_enter_11 : decode cX1_enter 11 = .ok (.istore 4, 2) := by decide +kernel
theorem dX1_enter_13 : decode cX1_enter 13 = .ok (.aload_n 0, 1) := by decide +kernel
theorem dX1_enter_14 : decode cX1_enter 14 = .ok (.getfield 16, 3) := by decide +kernel
theorem dX1_enter_17 : decode cX1_enter 17 = .ok (.istore 5, 2) := by decide +kernel
theorem dX1_enter_19 : decode cX1_enter 19 = .ok (.iload 5, 2) := by decide +kernel
theorem dX1_enter_21 : decode cX1_enter 21 = .ok (.ifCond .le 23, 3) := by decide +kernel
theorem dX1_enter_24 : decode cX1_enter 24 = .ok (.aload_n 0, 1) := by decide +kernel
theorem dX1_enter_25 : decode cX1_enter 25 = .ok (.getfield 11, 3) := by decide +kernel
theorem dX1_enter_28 : decode cX1_enter 28 = .ok (.iload 5, 2) := by decide +kernel
theorem dX1_enter_30 : decode cX1_enter 30 = .ok (.iconst 1, 1) := by decide +kernel
theorem dX1_enter_31 : decode cX1_enter 31 = .ok (.isub, 1) := by decide +kernel
theorem dX1_enter_32 : decode cX1_enter 32 = .ok (.iaload, 1) := by decide +kernel
theorem dX1_enter_33 : decode cX1_enter 33 = .ok (.iload 4, 2) := by decide +kernel
theorem dX1_enter_35 : decode cX1_enter 35 = .ok (.if_icmp .le 9, 3) := by decide +kernel
theorem dX1_enter_38 : decode cX1_enter 38 = .ok (.iinc 5 (-1), 3) := by decide +kernel
theorem dX1_enter_41 : decode cX1_enter 41 = .ok (.goto (-22), 3) := by decide +kernel
theorem dX1_enter_44 : decode cX1_enter 44 = .ok (.iload 5, 2) := by decide +kernel
theorem dX1_enter_46 : decode cX1_enter 46 = .ok (.ifCond .le 21, 3) := by decide +kernel
theorem dX1_enter_49 : decode cX1_enter 49 = .ok (.aload_n 0, 1) := by decide +kernel
theorem dX1_enter_50 : decode cX1_enter 50 = .ok (.getfield 11, 3) := by decide +kernel
theorem dX1_enter_53 : decode cX1_enter 53 = .ok (.iload 5, 2) := by decide +kernel
theorem dX1_enter_55 : decode cX1_enter 55 = .ok (.iconst 1, 1) := by decide +kernel
theorem dX1_enter_56 : decode cX1_enter 56 = .ok (.isub, 1) := by decide +kernel
theorem dX1_enter_57 : decode cX1_enter 57 = .ok (.iaload, 1) := by decide +kernel
theorem dX1_enter_58 : decode cX1_enter 58 = .ok (.iload 4, 2) := by decide +kernel
theorem dX1_enter_60 : decode cX1_enter 60 = .ok (.if_icmp .ne 7, 3) := by decide +kernel
theorem dX1_enter_63 : decode cX1_enter 63 = .ok (.iconst 1, 1) := by decide +kernel
theorem dX1_enter_64 : decode cX1_enter 64 = .ok (.goto 4, 3) := by decide +kernel
theorem dX1_enter_67 : decode cX1_enter 67 = .ok (.iconst 0, 1) := by decide +kernel
theorem dX1_enter_68 : decode cX1_enter 68 = .ok (.istore 6, 2) := by decide +kernel
theorem dX1_enter_70 : decode cX1_enter 70 = .ok (.iload 6, 2) := by decide +kernel
theorem dX1_enter_72 : decode cX1_enter 72 = .ok (.ifCond .ne 12, 3) := by decide +kernel
theorem dX1_enter_75 : decode cX1_enter 75 = .ok (.aload_n 0, 1) := by decide +kernel
theorem dX1_enter_76 : decode cX1_enter 76 = .ok (.getfield 16, 3) := by decide +kernel
theorem dX1_enter_79 : decode cX1_enter 79 = .ok (.bipush 72, 2) := by decide +kernel
theorem dX1_enter_81 : decode cX1_enter 81 = .ok (.if_icmp .lt 4, 3) := by decide +kernel
theorem dX1_enter_84 : decode cX1_enter 84 = .ok (.return_, 1) := by decide +kernel
theorem dX1_enter_85 : decode cX1_enter 85 = .ok (.aload_n 0, 1) := by decide +kernel
theorem dX1_enter_86 : decode cX1_enter 86 = .ok (.getfield 16, 3) := by decide +kernel
theorem dX1_enter_89 : decode cX1_enter 89 = .ok (.istore 7, 2) := by decide +kernel
theorem dX1_enter_91 : decode cX1_enter 91 = .ok (.iload 7, 2) := by decide +kernel
theorem dX1_enter_93 : decode cX1_enter 93 = .ok (.iload 5, 2) := by decide +kernel
theorem dX1_enter_95 : decode cX1_enter 95 = .ok (.if_icmp .le 25, 3) := by decide +kernel
theorem dX1_enter_98 : decode cX1_enter 98 = .ok (.aload_n 0, 1) := by decide +kernel
theorem dX1_enter_99 : decode cX1_enter 99 = .ok (.getfield 11, 3) := by decide +kernel
theorem dX1_enter_102 : decode cX1_enter 102 = .ok (.iload 7, 2) := by decide +kernel
theorem dX1_enter_104 : decode cX1_enter 104 = .ok (.aload_n 0, 1) := by decide +kernel
theorem dX1_enter_105 : decode cX1_enter 105 = .ok (.getfield 11, 3) := by decide +kernel
theorem dX1_enter_108 : decode cX1_enter 108 = .ok (.iload 7, 2) := by decide +kernel
theorem dX1_enter_110 : decode cX1_enter 110 = .ok (.iconst 1, 1) := by decide +kernel
theorem dX1_enter_111 : decode cX1_enter 111 = .ok (.isub, 1) := by decide +kernel
theorem dX1_enter_112 : decode cX1_enter 112 = .ok (.iaload, 1) := by decide +kernel
theorem dX1_enter_113 : decode cX1_enter 113 = .ok (.iastore, 1) := by decide +kernel
theorem dX1_enter_114 : decode cX1_enter 114 = .ok (.iinc 7 (-1), 3) := by decide +kernel
theorem dX1_enter_117 : decode cX1_enter 117 = .ok (.goto (-26), 3) := by decide +kernel
theorem dX1_enter_120 : decode cX1_enter 120 = .ok (.aload_n 0, 1) := by decide +kernel
theorem dX1_enter_121 : decode cX1_enter 121 = .ok (.getfield 11, 3) := by decide +kernel
theorem dX1_enter_124 : decode cX1_enter 124 = .ok (.iload 5, 2) := by decide +kernel
theorem dX1_enter_126 : decode cX1_enter 126 = .ok (.iload 4, 2) := by decide +kernel
theorem dX1_enter_128 : decode cX1_enter 128 = .ok (.iastore, 1) := by decide +kernel
theorem dX1_enter_129 : decode cX1_enter 129 = .ok (.aload_n 0, 1) := by decide +kernel
theorem dX1_enter_130 : decode cX1_enter 130 = .ok (.dup, 1) := by decide +kernel
theorem dX1_enter_131 : decode cX1_enter 131 = .ok (.getfield 16, 3) := by decide +kernel
theorem dX1_enter_134 : decode cX1_enter 134 = .ok (.iconst 1, 1) := by decide +kernel
theorem dX1_enter_135 : decode cX1_enter 135 = .ok (.iadd, 1) := by decide +kernel
theorem dX1_enter_136 : decode cX1_enter 136 = .ok (.putfield 16, 3) := by decide +kernel
theorem dX1_enter_139 : decode cX1_enter 139 = .ok (.return_, 1) := by decide +kernel
theorem dX2_init_0 : decode cX2_init 0 = .ok (.aload_n 0, 1) := by decide +kernel
theorem dX2_init_1 : decode cX2_init 1 = .ok (.invokespecial 3, 3) := by decide +kernel
theorem dX2_init_4 : decode cX2_init 4 = .ok (.return_, 1) := by decide +kernel
theorem dX2_wipe_0 : decode cX2_wipe 0 = .ok (.aload_n 0, 1) := by decide +kernel
theorem dX2_wipe_1 : decode cX2_wipe 1 = .ok (.iconst 0, 1) := by decide +kernel
theorem dX2_wipe_2 : decode cX2_wipe 2 = .ok (.putfield 9, 3) := by decide +kernel
theorem dX2_wipe_5 : decode cX2_wipe 5 = .ok (.aload_n 0, 1) := by decide +kernel
theorem dX2_wipe_6 : decode cX2_wipe 6 = .ok (.iconst 0, 1) := by decide +kernel
theorem dX2_wipe_7 : decode cX2_wipe 7 = .ok (.putfield 15, 3) := by decide +kernel
theorem dX2_wipe_10 : decode cX2_wipe 10 = .ok (.aload_n 0, 1) := by decide +kernel
theorem dX2_wipe_11 : decode cX2_wipe 11 = .ok (.iconst 0, 1) := by decide +kernel
theorem dX2_wipe_12 : decode cX2_wipe 12 = .ok (.putfield 18, 3) := by decide +kernel
theorem dX2_wipe_15 : decode cX2_wipe 15 = .ok (.aload_n 0, 1) := by decide +kernel
theorem dX2_wipe_16 : decode cX2_wipe 16 = .ok (.iconst 0, 1) := by decide +kernel
theorem dX2_wipe_17 : decode cX2_wipe 17 = .ok (.putfield 21, 3) := by decide +kernel
theorem dX2_wipe_20 : decode cX2_wipe 20 = .ok (.aload_n 0, 1) := by decide +kernel
theorem dX2_wipe_21 : decode cX2_wipe 21 = .ok (.iconst 0, 1) := by decide +kernel
theorem dX2_wipe_22 : decode cX2_wipe 22 = .ok (.putfield 24, 3) := by decide +kernel
theorem dX2_wipe_25 : decode cX2_wipe 25 = .ok (.return_, 1) := by decide +kernel
set_option maxRecDepth 20000 in
set_option maxRecDepth 100000 in
theorem ggX2_setUp_X2_wipe : GoodIn wsX2_setUp wsX2_wipe := goodIn_r _ [8, 1, 3, 9, 10, 11, 12, 13, 14, 15, 16] (by rfl) (by decide +kernel)
set_option maxRecDepth 20000 in
theorem gX2_setUp_X2_wipe : GoodIn wsX2_setUp (wsV RX2 27 RX2 yX2_wipe wsX2_wipe) := goodIn_app (goodIn_of _ (by decide +kernel)) ggX2_setUp_X2_wipe
theorem dX2_setUp_0 : decode cX2_setUp 0 = .ok (.aload_n 0, 1) := by decide +kernel
theorem dX2_setUp_1 : decode cX2_setUp 1 = .ok (.invokevirtual 27, 3) := by decide +kernel
theorem dX2_setUp_4 : decode cX2_setUp 4 = .ok (.aload_n 0, 1) := by decide +kernel
theorem dX2_setUp_5 : decode cX2_setUp 5 = .ok (.bipush 63, 2) := by decide +kernel
theorem dX2_setUp_7 : decode cX2_setUp 7 = .ok (.putfield 9, 3) := by decide +kernel
theorem dX2_setUp_10 : decode cX2_setUp 10 = .ok (.aload_n 0, 1) := by decide +kernel
theorem dX2_setUp_11 : decode cX2_setUp 11 = .ok (.ldc 30, 2) := by decide +kernel
theorem dX2_setUp_13 : decode cX2_setUp 13 = .ok (.putfield 15, 3) := by decide +kernel
theorem dX2_setUp_16 : decode cX2_setUp 16 = .ok (.return_, 1) := by decide +kernel
theorem dX2_copy_0 : decode cX2_copy 0 = .ok (.aload_n 0, 1) := by decide +kernel
theorem dX2_copy_1 : decode cX2_copy 1 = .ok (.aload_n 1, 1) := by decide +kernel
theorem dX2_copy_2 : decode cX2_copy 2 = .ok (.getfield 9, 3) := by decide +kernel
theorem dX2_copy_5 : decode cX2_copy 5 = .ok (.putfield 9, 3) := by decide +kernel
theorem dX2_copy_8 : decode cX2_copy 8 = .ok (.aload_n 0, 1) := by decide +kernel
theorem dX2_copy_9 : decode cX2_copy 9 = .ok (.aload_n 1, 1) := by decide +kernel
theorem dX2_copy_10 : decode cX2_copy 10 = .ok (.getfield 15, 3) := by decide +kernel
theorem dX2_copy_13 : decode cX2_copy 13 = .ok (.putfield 15, 3) := by decide +kernel
theorem dX2_copy_16 : decode cX2_copy 16 = .ok (.aload_n 0, 1) := by decide +kernel
theorem dX2_copy_17 : decode cX2_copy 17 = .ok (.aload_n 1, 1) := by decide +kernel
theorem dX2_copy_18 : decode cX2_copy 18 = .ok (.getfield 18, 3) := by decide +kernel
theorem dX2_copy_21 : decode cX2_copy 21 = .ok (.putfield 18, 3) := by decide +kernel
theorem dX2_copy_24 : decode cX2_copy 24 = .ok (.aload_n 0, 1) := by decide +kernel
theorem dX2_copy_25 : decode cX2_copy 25 = .ok (.aload_n 1, 1) := by decide +kernel
theorem dX2_copy_26 : decode cX2_copy 26 = .ok (.getfield 21, 3) := by decide +kernel
theorem dX2_copy_29 : decode cX2_copy 29 = .ok (.putfield 21, 3) := by decide +kernel
theorem dX2_copy_32 : decode cX2_copy 32 = .ok (.aload_n 0, 1) := by decide +kernel
theorem dX2_copy_33 : decode cX2_copy 33 = .ok (.aload_n 1, 1) := by decide +kernel
theorem dX2_copy_34 : decode cX2_copy 34 = .ok (.getfield 24, 3) := by decide +kernel
theorem dX2_copy_37 : decode cX2_copy 37 = .ok (.putfield 24, 3) := by decide +kernel
theorem dX2_copy_40 : decode cX2_copy 40 = .ok (.return_, 1) := by decide +kernel
theorem dX2_own_0 : decode cX2_own 0 = .ok (.aload_n 0, 1) := by decide +kernel
theorem dX2_own_1 : decode cX2_own 1 = .ok (.getfield 21, 3) := by decide +kernel
theorem dX2_own_4 : decode cX2_own 4 = .ok (.ifCond .ne 10, 3) := by decide +kernel
theorem dX2_own_7 : decode cX2_own 7 = .ok (.aload_n 0, 1) := by decide +kernel
theorem dX2_own_8 : decode cX2_own 8 = .ok (.getfield 9, 3) := by decide +kernel
theorem dX2_own_11 : decode cX2_own 11 = .ok (.goto 7, 3) := by decide +kernel
theorem dX2_own_14 : decode cX2_own 14 = .ok (.aload_n 0, 1) := by decide +kernel
theorem dX2_own_15 : decode cX2_own 15 = .ok (.getfield 15, 3) := by decide +kernel
theorem dX2_own_18 : decode cX2_own 18 = .ok (.ireturn, 1) := by decide +kernel
theorem dX2_others_0 : decode cX2_others 0 = .ok (.aload_n 0, 1) := by decide +kernel
theorem dX2_others_1 : decode cX2_others 1 = .ok (.getfield 21, 3) := by decide +kernel
theorem dX2_others_4 : decode cX2_others 4 = .ok (.ifCond .ne 10, 3) := by decide +kernel
theorem dX2_others_7 : decode cX2_others 7 = .ok (.aload_n 0, 1) := by decide +kernel
theorem dX2_others_8 : decode cX2_others 8 = .ok (.getfield 15, 3) := by decide +kernel
theorem dX2_others_11 : decode cX2_others 11 = .ok (.goto 7, 3) := by decide +kernel
theorem dX2_others_14 : decode cX2_others 14 = .ok (.aload_n 0, 1) := by decide +kernel
theorem dX2_others_15 : decode cX2_others 15 = .ok (.getfield 9, 3) := by decide +kernel
theorem dX2_others_18 : decode cX2_others 18 = .ok (.ireturn, 1) := by decide +kernel
theorem dX2_isKing_0 : decode cX2_isKing 0 = .ok (.aload_n 0, 1) := by decide +kernel
theorem dX2_isKing_1 : decode cX2_isKing 1 = .ok (.getfield 18, 3) := by decide +kernel
theorem dX2_isKing_4 : decode cX2_isKing 4 = .ok (.iload_n 1, 1) := by decide +kernel
theorem dX2_isKing_5 : decode cX2_isKing 5 = .ok (.ishr, 1) := by decide +kernel
theorem dX2_isKing_6 : decode cX2_isKing 6 = .ok (.iconst 1, 1) := by decide +kernel
theorem dX2_isKing_7 : decode cX2_isKing 7 = .ok (.iand, 1) := by decide +kernel
theorem dX2_isKing_8 : decode cX2_isKing 8 = .ok (.ifCond .eq 7, 3) := by decide +kernel
theorem dX2_isKing_11 : decode cX2_isKing 11 = .ok (.iconst 1, 1) := by decide +kernel
theorem dX2_isKing_12 : decode cX2_isKing 12 = .ok (.goto 4, 3) := by decide +kernel
theorem dX2_isKing_15 : decode cX2_isKing 15 = .ok (.iconst 0, 1) := by decide +kernel
theorem dX2_isKing_16 : decode cX2_isKing 16 = .ok (.ireturn, 1) := by decide +kernel
set_option maxRecDepth 20000 in
set_option maxRecDepth 100000 in
theorem ggX2_isOneEach_J6_bitCount_0f7a4 : GoodIn wsX2_isOneEach wsJ6_bitCount_0f7a4 := goodIn_r _ [6, 7, 8, 9] (by rfl) (by decide +kernel)
set_option maxRecDepth 20000 in
theorem gX2_isOneEach_J6_bitCount_0f7a4 : GoodIn wsX2_isOneEach (va_wsS RX2 31 yJ6_bitCount_0f7a4 wsJ6_bitCount_0f7a4) := goodIn_app (goodIn_of _ (by decide +kernel)) ggX2_isOneEach_J6_bitCount_0f7a4
theorem dX2_isOneEach_0 : decode cX2_isOneEach 0 = .ok (.aload_n 0, 1) := by decide +kernel
theorem dX2_isOneEach_1 : decode cX2_isOneEach 1 = .ok (.getfield 9, 3) := by decide +kernel
theorem dX2_isOneEach_4 : decode cX2_isOneEach 4 = .ok (.invokestatic 31, 3) := by decide +kernel
theorem dX2_isOneEach_7 : decode cX2_isOneEach 7 = .ok (.iconst 1, 1) := by decide +kernel
theorem dX2_isOneEach_8 : decode cX2_isOneEach 8 = .ok (.if_icmp .ne 18, 3) := by decide +kernel
theorem dX2_isOneEach_11 : decode cX2_isOneEach 11 = .ok (.aload_n 0, 1) := by decide +kernel
theorem dX2_isOneEach_12 : decode cX2_isOneEach 12 = .ok (.getfield 15, 3) := by decide +kernel
theorem dX2_isOneEach_15 : decode cX2_isOneEach 15 = .ok (.invokestatic 31, 3) := by decide +kernel
theorem dX2_isOneEach_18 : decode cX2_isOneEach 18 = .ok (.iconst 1, 1) := by decide +kernel
theorem dX2_isOneEach_19 : decode cX2_isOneEach 19 = .ok (.if_icmp .ne 7, 3) := by decide +kernel
theorem dX2_isOneEach_22 : decode cX2_isOneEach 22 = .ok (.iconst 1, 1) := by decide +kernel
theorem dX2_isOneEach_23 : decode cX2_isOneEach 23 = .ok (.goto 4, 3) := by decide +kernel
theorem dX2_isOneEach_26 : decode cX2_isOneEach 26 = .ok (.iconst 0, 1) := by decide +kernel
theorem dX2_isOneEach_27 : decode cX2_isOneEach 27 = .ok (.ireturn, 1) := by decide +kernel
theorem dX2_pieceOn_0 : decode cX2_pieceOn 0 = .ok (.aload_n 0, 1) := by decide +kernel
theorem dX2_pieceOn_1 : decode cX2_pieceOn 1 = .ok (.getfield 18, 3) := by decide +kernel
theorem dX2_pieceOn_4 : decode cX2_pieceOn 4 = .ok (.iload_n 1, 1) := by decide +kernel
theorem dX2_pieceOn_5 : decode cX2_pieceOn 5 = .ok (.iand, 1) := by decide +kernel
theorem dX2_pieceOn_6 : decode cX2_pieceOn 6 = .ok (.ifCond .eq 7, 3) := by decide +kernel
theorem dX2_pieceOn_9 : decode cX2_pieceOn 9 = .ok (.iconst 1, 1) := by decide +kernel
theorem dX2_pieceOn_10 : decode cX2_pieceOn 10 = .ok (.goto 4, 3) := by decide +kernel
theorem dX2_pieceOn_13 : decode cX2_pieceOn 13 = .ok (.iconst 0, 1) := by decide +kernel
theorem dX2_pieceOn_14 : decode cX2_pieceOn 14 = .ok (.istore_n 2, 1) := by decide +kernel
theorem dX2_pieceOn_15 : decode cX2_pieceOn 15 = .ok (.aload_n 0, 1) := by decide +kernel
theorem dX2_pieceOn_16 : decode cX2_pieceOn 16 = .ok (.getfield 9, 3) := by decide +kernel
theorem dX2_pieceOn_19 : decode cX2_pieceOn 19 = .ok (.iload_n 1, 1) := by decide +kernel
theorem dX2_pieceOn_20 : decode cX2_pieceOn 20 = .ok (.iand, 1) := by decide +kernel
theorem dX2_pieceOn_21 : decode cX2_pieceOn 21 = .ok (.ifCond .eq 13, 3) := by decide +kernel
theorem dX2_pieceOn_24 : decode cX2_pieceOn 24 = .ok (.iload_n 2, 1) := by decide +kernel
theorem dX2_pieceOn_25 : decode cX2_pieceOn 25 = .ok (.ifCond .eq 7, 3) := by decide +kernel
theorem dX2_pieceOn_28 : decode cX2_pieceOn 28 = .ok (.iconst 2, 1) := by decide +kernel
theorem dX2_pieceOn_29 : decode cX2_pieceOn 29 = .ok (.goto 4, 3) := by decide +kernel
theorem dX2_pieceOn_32 : decode cX2_pieceOn 32 = .ok (.iconst 1, 1) := by decide +kernel
theorem dX2_pieceOn_33 : decode cX2_pieceOn 33 = .ok (.ireturn, 1) := by decide +kernel
theorem dX2_pieceOn_34 : decode cX2_pieceOn 34 = .ok (.aload_n 0, 1) := by decide +kernel
theorem dX2_pieceOn_35 : decode cX2_pieceOn 35 = .ok (.getfield 15, 3) := by decide +kernel
theorem dX2_pieceOn_38 : decode cX2_pieceOn 38 = .ok (.iload_n 1, 1) := by decide +kernel
theorem dX2_pieceOn_39 : decode cX2_pieceOn 39 = .ok (.iand, 1) := by decide +kernel
theorem dX2_pieceOn_40 : decode cX2_pieceOn 40 = .ok (.ifCond .eq 13, 3) := by decide +kernel
theorem dX2_pieceOn_43 : decode cX2_pieceOn 43 = .ok (.iload_n 2, 1) := by decide +kernel
theorem dX2_pieceOn_44 : decode cX2_pieceOn 44 = .ok (.ifCond .eq 7, 3) := by decide +kernel
theorem dX2_pieceOn_47 : decode cX2_pieceOn 47 = .ok (.iconst 4, 1) := by decide +kernel
theorem dX2_pieceOn_48 : decode cX2_pieceOn 48 = .ok (.goto 4, 3) := by decide +kernel
theorem dX2_pieceOn_51 : decode cX2_pieceOn 51 = .ok (.iconst 3, 1) := by decide +kernel
theorem dX2_pieceOn_52 : decode cX2_pieceOn 52 = .ok (.ireturn, 1) := by decide +kernel
theorem dX2_pieceOn_53 : decode cX2_pieceOn 53 = .ok (.iconst 0, 1) := by decide +kernel
theorem dX2_pieceOn_54 : decode cX2_pieceOn 54 = .ok (.ireturn, 1) := by decide +kernel
theorem dX2_place_0 : decode cX2_place 0 = .ok (.aload_n 0, 1) := by decide +kernel
theorem dX2_place_1 : decode cX2_place 1 = .ok (.dup, 1) := by decide +kernel
theorem dX2_place_2 : decode cX2_place 2 = .ok (.getfield 9, 3) := by decide +kernel
theorem dX2_place_5 : decode cX2_place 5 = .ok (.iload_n 1, 1) := by decide +kernel
theorem dX2_place_6 : decode cX2_place 6 = .ok (.iconst (-1), 1) := by decide +kernel
theorem dX2_place_7 : decode cX2_place 7 = .ok (.ixor, 1) := by decide +kernel
theorem dX2_place_8 : decode cX2_place 8 = .ok (.iand, 1) := by decide +kernel
theorem dX2_place_9 : decode cX2_place 9 = .ok (.putfield 9, 3) := by decide +kernel
theorem dX2_place_12 : decode cX2_place 12 = .ok (.aload_n 0, 1) := by decide +kernel
theorem dX2_place_13 : decode cX2_place 13 = .ok (.dup, 1) := by decide +kernel
theorem dX2_place_14 : decode cX2_place 14 = .ok (.getfield 15, 3) := by decide +kernel
theorem dX2_place_17 : decode cX2_place 17 = .ok (.iload_n 1, 1) := by decide +kernel
theorem dX2_place_18 : decode cX2_place 18 = .ok (.iconst (-1), 1) := by decide +kernel
theorem dX2_place_19 : decode cX2_place 19 = .ok (.ixor, 1) := by decide +kernel
theorem dX2_place_20 : decode cX2_place 20 = .ok (.iand, 1) := by decide +kernel
theorem dX2_place_21 : decode cX2_place 21 = .ok (.putfield 15, 3) := by decide +kernel
theorem dX2_place_24 : decode cX2_place 24 = .ok (.aload_n 0, 1) := by decide +kernel
theorem dX2_place_25 : decode cX2_place 25 = .ok (.dup, 1) := by decide +kernel
theorem dX2_place_26 : decode cX2_place 26 = .ok (.getfield 18, 3) := by decide +kernel
theorem dX2_place_29 : decode cX2_place 29 = .ok (.iload_n 1, 1) := by decide +kernel
theorem dX2_place_30 : decode cX2_place 30 = .ok (.iconst (-1), 1) := by decide +kernel
theorem dX2_place_31 : decode cX2_place 31 = .ok (.ixor, 1) := by decide +kernel
theorem dX2_place_32 : decode cX2_place 32 = .ok (.iand, 1) := by decide +kernel
theorem dX2_place_33 : decode cX2_place 33 = .ok (.putfield 18, 3) := by decide +kernel
theorem dX2_place_36 : decode cX2_place 36 = .ok (.iload_n 2, 1) := by decide +kernel
theorem dX2_place_37 : decode cX2_place 37 = .ok (.iconst 1, 1) := by decide +kernel
theorem dX2_place_38 : decode cX2_place 38 = .ok (.if_icmp .eq 8, 3) := by decide +kernel
theorem dX2_place_41 : decode cX2_place 41 = .ok (.iload_n 2, 1) := by decide +kernel
theorem dX2_place_42 : decode cX2_place 42 = .ok (.iconst 2, 1) := by decide +kernel
theorem dX2_place_43 : decode cX2_place 43 = .ok (.if_icmp .ne 13, 3) := by decide +kernel
theorem dX2_place_46 : decode cX2_place 46 = .ok (.aload_n 0, 1) := by decide +kernel
theorem dX2_place_47 : decode cX2_place 47 = .ok (.dup, 1) := by decide +kernel
theorem dX2_place_48 : decode cX2_place 48 = .ok (.getfield 9, 3) := by decide +kernel
theorem dX2_place_51 : decode cX2_place 51 = .ok (.iload_n 1, 1) := by decide +kernel
theorem dX2_place_52 : decode cX2_place 52 = .ok (.ior, 1) := by decide +kernel
theorem dX2_place_53 : decode cX2_place 53 = .ok (.putfield 9, 3) := by decide +kernel
theorem dX2_place_56 : decode cX2_place 56 = .ok (.iload_n 2, 1) := by decide +kernel
theorem dX2_place_57 : decode cX2_place 57 = .ok (.iconst 3, 1) := by decide +kernel
theorem dX2_place_58 : decode cX2_place 58 = .ok (.if_icmp .eq 8, 3) := by decide +kernel
theorem dX2_place_61 : decode cX2_place 61 = .ok (.iload_n 2, 1) := by decide +kernel
theorem dX2_place_62 : decode cX2_place 62 = .ok (.iconst 4, 1) := by decide +kernel
theorem dX2_place_63 : decode cX2_place 63 = .ok (.if_icmp .ne 13, 3) := by decide +kernel
theorem dX2_place_66 : decode cX2_place 66 = .ok (.aload_n 0, 1) := by decide +kernel
theorem dX2_place_67 : decode cX2_place 67 = .ok (.dup, 1) := by decide +kernel
theorem dX2_place_68 : decode cX2_place 68 = .ok (.getfield 15, 3) := by decide +kernel
theorem dX2_place_71 : decode cX2_place 71 = .ok (.iload_n 1, 1) := by decide +kernel
theorem dX2_place_72 : decode cX2_place 72 = .ok (.ior, 1) := by decide +kernel
theorem dX2_place_73 : decode cX2_place 73 = .ok (.putfield 15, 3) := by decide +kernel
theorem dX2_place_76 : decode cX2_place 76 = .ok (.iload_n 2, 1) := by decide +kernel
theorem dX2_place_77 : decode cX2_place 77 = .ok (.iconst 2, 1) := by decide +kernel
theorem dX2_place_78 : decode cX2_place 78 = .ok (.if_icmp .eq 8, 3) := by decide +kernel
theorem dX2_place_81 : decode cX2_place 81 = .ok (.iload_n 2, 1) := by decide +kernel
theorem dX2_place_82 : decode cX2_place 82 = .ok (.iconst 4, 1) := by decide +kernel
theorem dX2_place_83 : decode cX2_place 83 = .ok (.if_icmp .ne 13, 3) := by decide +kernel
theorem dX2_place_86 : decode cX2_place 86 = .ok (.aload_n 0, 1) := by decide +kernel
theorem dX2_place_87 : decode cX2_place 87 = .ok (.dup, 1) := by decide +kernel
theorem dX2_place_88 : decode cX2_place 88 = .ok (.getfield 18, 3) := by decide +kernel
theorem dX2_place_91 : decode cX2_place 91 = .ok (.iload_n 1, 1) := by decide +kernel
theorem dX2_place_92 : decode cX2_place 92 = .ok (.ior, 1) := by decide +kernel
theorem dX2_place_93 : decode cX2_place 93 = .ok (.putfield 18, 3) := by decide +kernel
theorem dX2_place_96 : decode cX2_place 96 = .ok (.return_, 1) := by decide +kernel
set_option maxRecDepth 20000 in
set_option maxRecDepth 100000 in
theorem ggX2_follow_X1_beginning : GoodIn wsX2_follow wsX1_beginning := goodIn_r _ [10] (by rfl) (by decide +kernel)
set_option maxRecDepth 20000 in
theorem gX2_follow_X1_beginning : GoodIn wsX2_follow (va_wsS RX2 37 yX1_beginning wsX1_beginning) := goodIn_app (goodIn_of _ (by decide +kernel)) ggX2_follow_X1_beginning
set_option maxRecDepth 20000 in
set_option maxRecDepth 100000 in
theorem ggX2_follow_X1_end : GoodIn wsX2_follow wsX1_end := goodIn_r _ [13] (by rfl) (by decide +kernel)
set_option maxRecDepth 20000 in
theorem gX2_follow_X1_end : GoodIn wsX2_follow (va_wsS RX2 42 yX1_end wsX1_end) := goodIn_app (goodIn_of _ (by decide +kernel)) ggX2_follow_X1_end
set_option maxRecDepth 20000 in
set_option maxRecDepth 100000 in
theorem ggX2_follow_X1_taken : GoodIn wsX2_follow wsX1_taken := goodIn_r _ [16, 17] (by rfl) (by decide +kernel)
set_option maxRecDepth 20000 in
theorem gX2_follow_X1_taken : GoodIn wsX2_follow (va_wsS RX2 45 yX1_taken wsX1_taken) := goodIn_app (goodIn_of _ (by decide +kernel)) ggX2_follow_X1_taken
theorem dX2_follow_0 : decode cX2_follow 0 = .ok (.iconst 1, 1) := by decide +kernel
theorem dX2_follow_1 : decode cX2_follow 1 = .ok (.iload_n 2, 1) := by decide +kernel
theorem dX2_follow_2 : decode cX2_follow 2 = .ok (.invokestatic 37, 3) := by decide +kernel
theorem dX2_follow_5 : decode cX2_follow 5 = .ok (.ishl, 1) := by decide +kernel
theorem dX2_follow_6 : decode cX2_follow 6 = .ok (.istore_n 3, 1) := by decide +kernel
theorem dX2_follow_7 : decode cX2_follow 7 = .ok (.iconst 1, 1) := by decide +kernel
theorem dX2_follow_8 : decode cX2_follow 8 = .ok (.iload_n 2, 1) := by decide +kernel
theorem dX2_follow_9 : decode cX2_follow 9 = .ok (.invokestatic 42, 3) := by decide +kernel
theorem dX2_follow_12 : decode cX2_follow 12 = .ok (.ishl, 1) := by decide +kernel
theorem dX2_follow_13 : decode cX2_follow 13 = .ok (.istore 4, 2) := by decide +kernel
theorem dX2_follow_15 : decode cX2_follow 15 = .ok (.iload_n 2, 1) := by decide +kernel
theorem dX2_follow_16 : decode cX2_follow 16 = .ok (.invokestatic 45, 3) := by decide +kernel
theorem dX2_follow_19 : decode cX2_follow 19 = .ok (.istore 5, 2) := by decide +kernel
theorem dX2_follow_21 : decode cX2_follow 21 = .ok (.aload_n 1, 1) := by decide +kernel
theorem dX2_follow_22 : decode cX2_follow 22 = .ok (.getfield 21, 3) := by decide +kernel
theorem dX2_follow_25 : decode cX2_follow 25 = .ok (.ifCond .ne 7, 3) := by decide +kernel
theorem dX2_follow_28 : decode cX2_follow 28 = .ok (.iconst 1, 1) := by decide +kernel
theorem dX2_follow_29 : decode cX2_follow 29 = .ok (.goto 4, 3) := by decide +kernel
theorem dX2_follow_32 : decode cX2_follow 32 = .ok (.iconst 0, 1) := by decide +kernel
theorem dX2_follow_33 : decode cX2_follow 33 = .ok (.istore 6, 2) := by decide +kernel
theorem dX2_follow_35 : decode cX2_follow 35 = .ok (.aload_n 1, 1) := by decide +kernel
theorem dX2_follow_36 : decode cX2_follow 36 = .ok (.getfield 18, 3) := by decide +kernel
theorem dX2_follow_39 : decode cX2_follow 39 = .ok (.iload_n 3, 1) := by decide +kernel
theorem dX2_follow_40 : decode cX2_follow 40 = .ok (.iand, 1) := by decide +kernel
theorem dX2_follow_41 : decode cX2_follow 41 = .ok (.ifCond .eq 7, 3) := by decide +kernel
theorem dX2_follow_44 : decode cX2_follow 44 = .ok (.iconst 1, 1) := by decide +kernel
theorem dX2_follow_45 : decode cX2_follow 45 = .ok (.goto 4, 3) := by decide +kernel
theorem dX2_follow_48 : decode cX2_follow 48 = .ok (.iconst 0, 1) := by decide +kernel
theorem dX2_follow_49 : decode cX2_follow 49 = .ok (.istore 7, 2) := by decide +kernel
theorem dX2_follow_51 : decode cX2_follow 51 = .ok (.iload 6, 2) := by decide +kernel
theorem dX2_follow_53 : decode cX2_follow 53 = .ok (.ifCond .eq 8, 3) := by decide +kernel
theorem dX2_follow_56 : decode cX2_follow 56 = .ok (.ldc 48, 2) := by decide +kernel
theorem dX2_follow_58 : decode cX2_follow 58 = .ok (.goto 5, 3) := by decide +kernel
theorem dX2_follow_61 : decode cX2_follow 61 = .ok (.bipush 7, 2) := by decide +kernel
theorem dX2_follow_63 : decode cX2_follow 63 = .ok (.istore 8, 2) := by decide +kernel
theorem dX2_follow_65 : decode cX2_follow 65 = .ok (.aload_n 0, 1) := by decide +kernel
theorem dX2_follow_66 : decode cX2_follow 66 = .ok (.iload 6, 2) := by decide +kernel
theorem dX2_follow_68 : decode cX2_follow 68 = .ok (.ifCond .eq 17, 3) := by decide +kernel
theorem dX2_follow_71 : decode cX2_follow 71 = .ok (.aload_n 1, 1) := by decide +kernel
theorem dX2_follow_72 : decode cX2_follow 72 = .ok (.getfield 9, 3) := by decide +kernel
theorem dX2_follow_75 : decode cX2_follow 75 = .ok (.iload_n 3, 1) := by decide +kernel
theorem dX2_follow_76 : decode cX2_follow 76 = .ok (.iconst (-1), 1) := by decide +kernel
theorem dX2_follow_77 : decode cX2_follow 77 = .ok (.ixor, 1) := by decide +kernel
theorem dX2_follow_78 : decode cX2_follow 78 = .ok (.iand, 1) := by decide +kernel
theorem dX2_follow_79 : decode cX2_follow 79 = .ok (.iload 4, 2) := by decide +kernel
theorem dX2_follow_81 : decode cX2_follow 81 = .ok (.ior, 1) := by decide +kernel
theorem dX2_follow_82 : decode cX2_follow 82 = .ok (.goto 12, 3) := by decide +kernel
theorem dX2_follow_85 : decode cX2_follow 85 = .ok (.aload_n 1, 1) := by decide +kernel
theorem dX2_follow_86 : decode cX2_follow 86 = .ok (.getfield 9, 3) := by decide +kernel
theorem dX2_follow_89 : decode cX2_follow 89 = .ok (.iload 5, 2) := by decide +kernel
theorem dX2_follow_91 : decode cX2_follow 91 = .ok (.iconst (-1), 1) := by decide +kernel
theorem dX2_follow_92 : decode cX2_follow 92 = .ok (.ixor, 1) := by decide +kernel
theorem dX2_follow_93 : decode cX2_follow 93 = .ok (.iand, 1) := by decide +kernel
theorem dX2_follow_94 : decode cX2_follow 94 = .ok (.putfield 9, 3) := by decide +kernel
theorem dX2_follow_97 : decode cX2_follow 97 = .ok (.aload_n 0, 1) := by decide +kernel
theorem dX2_follow_98 : decode cX2_follow 98 = .ok (.iload 6, 2) := by decide +kernel
theorem dX2_follow_100 : decode cX2_follow 100 = .ok (.ifCond .eq 15, 3) := by decide +kernel
theorem dX2_follow_103 : decode cX2_follow 103 = .ok (.aload_n 1, 1) := by decide +kernel
theorem dX2_follow_104 : decode cX2_follow 104 = .ok (.getfield 15, 3) := by decide +kernel
theorem dX2_follow_107 : decode cX2_follow 107 = .ok (.iload 5, 2) := by decide +kernel
theorem dX2_follow_109 : decode cX2_follow 109 = .ok (.iconst (-1), 1) := by decide +kernel
theorem dX2_follow_110 : decode cX2_follow 110 = .ok (.ixor, 1) := by decide +kernel
theorem dX2_follow_111 : decode cX2_follow 111 = .ok (.iand, 1) := by decide +kernel
theorem dX2_follow_112 : decode cX2_follow 112 = .ok (.goto 14, 3) := by decide +kernel
theorem dX2_follow_115 : decode cX2_follow 115 = .ok (.aload_n 1, 1) := by decide +kernel
theorem dX2_follow_116 : decode cX2_follow 116 = .ok (.getfield 15, 3) := by decide +kernel
theorem dX2_follow_119 : decode cX2_follow 119 = .ok (.iload_n 3, 1) := by decide +kernel
theorem dX2_follow_120 : decode cX2_follow 120 = .ok (.iconst (-1), 1) := by decide +kernel
theorem dX2_follow_121 : decode cX2_follow 121 = .ok (.ixor, 1) := by decide +kernel
theorem dX2_follow_122 : decode cX2_follow 122 = .ok (.iand, 1) := by decide +kernel
theorem dX2_follow_123 : decode cX2_follow 123 = .ok (.iload 4, 2) := by decide +kernel
theorem dX2_follow_125 : decode cX2_follow 125 = .ok (.ior, 1) := by decide +kernel
theorem dX2_follow_126 : decode cX2_follow 126 = .ok (.putfield 15, 3) := by decide +kernel
theorem dX2_follow_129 : decode cX2_follow 129 = .ok (.aload_n 0, 1) := by decide +kernel
theorem dX2_follow_130 : decode cX2_follow 130 = .ok (.aload_n 1, 1) := by decide +kernel
theorem dX2_follow_131 : decode cX2_follow 131 = .ok (.getfield 18, 3) := by decide +kernel
theorem dX2_follow_134 : decode cX2_follow 134 = .ok (.iload_n 3, 1) := by decide +kernel
theorem dX2_follow_135 : decode cX2_follow 135 = .ok (.iconst (-1), 1) := by decide +kernel
theorem dX2_follow_136 : decode cX2_follow 136 = .ok (.ixor, 1) := by decide +kernel
theorem dX2_follow_137 : decode cX2_follow 137 = .ok (.iand, 1) := by decide +kernel
theorem dX2_follow_138 : decode cX2_follow 138 = .ok (.iload 5, 2) := by decide +kernel
theorem dX2_follow_140 : decode cX2_follow 140 = .ok (.iconst (-1), 1) := by decide +kernel
theorem dX2_follow_141 : decode cX2_follow 141 = .ok (.ixor, 1) := by decide +kernel
theorem dX2_follow_142 : decode cX2_follow 142 = .ok (.iand, 1) := by decide +kernel
theorem dX2_follow_143 : decode cX2_follow 143 = .ok (.putfield 18, 3) := by decide +kernel
theorem dX2_follow_146 : decode cX2_follow 146 = .ok (.iload 7, 2) := by decide +kernel
theorem dX2_follow_148 : decode cX2_follow 148 = .ok (.ifCond .ne 11, 3) := by decide +kernel
theorem dX2_follow_151 : decode cX2_follow 151 = .ok (.iload 4, 2) := by decide +kernel
theorem dX2_follow_153 : decode cX2_follow 153 = .ok (.iload 8, 2) := by decide +kernel
theorem dX2_follow_155 : decode cX2_follow 155 = .ok (.iand, 1) := by decide +kernel
theorem dX2_follow_156 : decode cX2_follow 156 = .ok (.ifCond .eq 14, 3) := by decide +kernel
theorem dX2_follow_159 : decode cX2_follow 159 = .ok (.aload_n 0, 1) := by decide +kernel
theorem dX2_follow_160 : decode cX2_follow 160 = .ok (.dup, 1) := by decide +kernel
theorem dX2_follow_161 : decode cX2_follow 161 = .ok (.getfield 18, 3) := by decide +kernel
theorem dX2_follow_164 : decode cX2_follow 164 = .ok (.iload 4, 2) := by decide +kernel
theorem dX2_follow_166 : decode cX2_follow 166 = .ok (.ior, 1) := by decide +kernel
theorem dX2_follow_167 : decode cX2_follow 167 = .ok (.putfield 18, 3) := by decide +kernel
theorem dX2_follow_170 : decode cX2_follow 170 = .ok (.aload_n 0, 1) := by decide +kernel
theorem dX2_follow_171 : decode cX2_follow 171 = .ok (.iload 6, 2) := by decide +kernel
theorem dX2_follow_173 : decode cX2_follow 173 = .ok (.ifCond .eq 7, 3) := by decide +kernel
theorem dX2_follow_176 : decode cX2_follow 176 = .ok (.iconst 1, 1) := by decide +kernel
theorem dX2_follow_177 : decode cX2_follow 177 = .ok (.goto 4, 3) := by decide +kernel
theorem dX2_follow_180 : decode cX2_follow 180 = .ok (.iconst 0, 1) := by decide +kernel
theorem dX2_follow_181 : decode cX2_follow 181 = .ok (.putfield 21, 3) := by decide +kernel
theorem dX2_follow_184 : decode cX2_follow 184 = .ok (.aload_n 0, 1) := by decide +kernel
theorem dX2_follow_185 : decode cX2_follow 185 = .ok (.iload 7, 2) := by decide +kernel
theorem dX2_follow_187 : decode cX2_follow 187 = .ok (.ifCond .eq 17, 3) := by decide +kernel
theorem dX2_follow_190 : decode cX2_follow 190 = .ok (.iload 5, 2) := by decide +kernel
theorem dX2_follow_192 : decode cX2_follow 192 = .ok (.ifCond .ne 12, 3) := by decide +kernel
theorem dX2_follow_195 : decode cX2_follow 195 = .ok (.aload_n 1, 1) := by decide +kernel
theorem dX2_follow_196 : decode cX2_follow 196 = .ok (.getfield 24, 3) := by decide +kernel
theorem dX2_follow_199 : decode cX2_follow 199 = .ok (.iconst 1, 1) := by decide +kernel
theorem dX2_follow_200 : decode cX2_follow 200 = .ok (.iadd, 1) := by decide +kernel
theorem dX2_follow_201 : decode cX2_follow 201 = .ok (.goto 4, 3) := by decide +kernel
theorem dX2_follow_204 : decode cX2_follow 204 = .ok (.iconst 0, 1) := by decide +kernel
theorem dX2_follow_205 : decode cX2_follow 205 = .ok (.putfield 24, 3) := by decide +kernel
theorem dX2_follow_208 : decode cX2_follow 208 = .ok (.return_, 1) := by decide +kernel
set_option maxRecDepth 20000 in
set_option maxRecDepth 100000 in
theorem ggX2_balance_X2_own : GoodIn wsX2_balance wsX2_own := goodIn_r _ [6, 7, 8, 9, 21, 22, 23, 24, 25] (by rfl) (by decide +kernel)
set_option maxRecDepth 20000 in
theorem gX2_balance_X2_own : GoodIn wsX2_balance (wsV RX2 49 RX2 yX2_own wsX2_own) := goodIn_app (goodIn_of _ (by decide +kernel)) ggX2_balance_X2_own
set_option maxRecDepth 20000 in
set_option maxRecDepth 100000 in
theorem ggX2_balance_J6_bitCount_0f7a4 : GoodIn wsX2_balance wsJ6_bitCount_0f7a4 := goodIn_r _ [13, 14, 15, 16] (by rfl) (by decide +kernel)
set_option maxRecDepth 20000 in
theorem gX2_balance_J6_bitCount_0f7a4 : GoodIn wsX2_balance (va_wsS RX2 31 yJ6_bitCount_0f7a4 wsJ6_bitCount_0f7a4) := goodIn_app (goodIn_of _ (by decide +kernel)) ggX2_balance_J6_bitCount_0f7a4
set_option maxRecDepth 20000 in
set_option maxRecDepth 100000 in
theorem ggX2_balance_X2_others : GoodIn wsX2_balance wsX2_others := goodIn_r _ [20, 7, 9, 8, 21, 22, 23, 24, 25] (by rfl) (by decide +kernel)
set_option maxRecDepth 20000 in
theorem gX2_balance_X2_others : GoodIn wsX2_balance (wsV RX2 53 RX2 yX2_others wsX2_others) := goodIn_app (goodIn_of _ (by decide +kernel)) ggX2_balance_X2_others
theorem dX2_balance_0 : decode cX2_balance 0 = .ok (.iconst 2, 1) := by decide +kernel
theorem dX2_balance_1 : decode cX2_balance 1 = .ok (.aload_n 0, 1) := by decide +kernel
theorem dX2_balance_2 : decode cX2_balance 2 = .ok (.invokevirtual 49, 3) := by decide +kernel
theorem dX2_balance_5 : decode cX2_balance 5 = .ok (.invokestatic 31, 3) := by decide +kernel
theorem dX2_balance_8 : decode cX2_balance 8 = .ok (.imul, 1) := by decide +kernel
theorem dX2_balance_9 : decode cX2_balance 9 = .ok (.aload_n 0, 1) := by decide +kernel
theorem dX2_balance_10 : decode cX2_balance 10 = .ok (.invokevirtual 49, 3) := by decide +kernel
theorem dX2_balance_13 : decode cX2_balance 13 = .ok (.aload_n 0, 1) := by decide +kernel
theorem dX2_balance_14 : decode cX2_balance 14 = .ok (.getfield 18, 3) := by decide +kernel
theorem dX2_balance_17 : decode cX2_balance 17 = .ok (.iand, 1) := by decide +kernel
theorem dX2_balance_18 : decode cX2_balance 18 = .ok (.invokestatic 31, 3) := by decide +kernel
theorem dX2_balance_21 : decode cX2_balance 21 = .ok (.iadd, 1) := by decide +kernel
theorem dX2_balance_22 : decode cX2_balance 22 = .ok (.istore_n 1, 1) := by decide +kernel
theorem dX2_balance_23 : decode cX2_balance 23 = .ok (.iconst 2, 1) := by decide +kernel
theorem dX2_balance_24 : decode cX2_balance 24 = .ok (.aload_n 0, 1) := by decide +kernel
theorem dX2_balance_25 : decode cX2_balance 25 = .ok (.invokevirtual 53, 3) := by decide +kernel
theorem dX2_balance_28 : decode cX2_balance 28 = .ok (.invokestatic 31, 3) := by decide +kernel
theorem dX2_balance_31 : decode cX2_balance 31 = .ok (.imul, 1) := by decide +kernel
theorem dX2_balance_32 : decode cX2_balance 32 = .ok (.aload_n 0, 1) := by decide +kernel
theorem dX2_balance_33 : decode cX2_balance 33 = .ok (.invokevirtual 53, 3) := by decide +kernel
theorem dX2_balance_36 : decode cX2_balance 36 = .ok (.aload_n 0, 1) := by decide +kernel
theorem dX2_balance_37 : decode cX2_balance 37 = .ok (.getfield 18, 3) := by decide +kernel
theorem dX2_balance_40 : decode cX2_balance 40 = .ok (.iand, 1) := by decide +kernel
theorem dX2_balance_41 : decode cX2_balance 41 = .ok (.invokestatic 31, 3) := by decide +kernel
theorem dX2_balance_44 : decode cX2_balance 44 = .ok (.iadd, 1) := by decide +kernel
theorem dX2_balance_45 : decode cX2_balance 45 = .ok (.istore_n 2, 1) := by decide +kernel
theorem dX2_balance_46 : decode cX2_balance 46 = .ok (.iload_n 1, 1) := by decide +kernel
theorem dX2_balance_47 : decode cX2_balance 47 = .ok (.iload_n 2, 1) := by decide +kernel
