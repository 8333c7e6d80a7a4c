theorem dX5_material_32 : decode cX5_material 32 = .ok (.iload 4, 2) := by decide +kernel
theorem dX5_material_34 : decode cX5_material 34 = .ok (.invokestatic 73, 3) := by decide +kernel
theorem dX5_material_37 : decode cX5_material 37 = .ok (.ifCond .eq 7, 3) := by decide +kernel
theorem dX5_material_40 : decode cX5_material 40 = .ok (.iconst 3, 1) := by decide +kernel
theorem dX5_material_41 : decode cX5_material 41 = .ok (.goto 4, 3) := by decide +kernel
theorem dX5_material_44 : decode cX5_material 44 = .ok (.iconst 2, 1) := by decide +kernel
theorem dX5_material_45 : decode cX5_material 45 = .ok (.istore 5, 2) := by decide +kernel
theorem dX5_material_47 : decode cX5_material 47 = .ok (.iload 4, 2) := by decide +kernel
theorem dX5_material_49 : decode cX5_material 49 = .ok (.invokestatic 90, 3) := by decide +kernel
theorem dX5_material_52 : decode cX5_material 52 = .ok (.aload_n 0, 1) := by decide +kernel
theorem dX5_material_53 : decode cX5_material 53 = .ok (.getfield 13, 3) := by decide +kernel
theorem dX5_material_56 : decode cX5_material 56 = .ok (.iload_n 1, 1) := by decide +kernel
theorem dX5_material_57 : decode cX5_material 57 = .ok (.iaload, 1) := by decide +kernel
theorem dX5_material_58 : decode cX5_material 58 = .ok (.if_icmp .ne 10, 3) := by decide +kernel
theorem dX5_material_61 : decode cX5_material 61 = .ok (.iload_n 2, 1) := by decide +kernel
theorem dX5_material_62 : decode cX5_material 62 = .ok (.iload 5, 2) := by decide +kernel
theorem dX5_material_64 : decode cX5_material 64 = .ok (.iadd, 1) := by decide +kernel
theorem dX5_material_65 : decode cX5_material 65 = .ok (.goto 7, 3) := by decide +kernel
theorem dX5_material_68 : decode cX5_material 68 = .ok (.iload_n 2, 1) := by decide +kernel
theorem dX5_material_69 : decode cX5_material 69 = .ok (.iload 5, 2) := by decide +kernel
theorem dX5_material_71 : decode cX5_material 71 = .ok (.isub, 1) := by decide +kernel
theorem dX5_material_72 : decode cX5_material 72 = .ok (.istore_n 2, 1) := by decide +kernel
theorem dX5_material_73 : decode cX5_material 73 = .ok (.iinc 3 1, 3) := by decide +kernel
theorem dX5_material_76 : decode cX5_material 76 = .ok (.goto (-72), 3) := by decide +kernel
theorem dX5_material_79 : decode cX5_material 79 = .ok (.iload_n 2, 1) := by decide +kernel
theorem dX5_material_80 : decode cX5_material 80 = .ok (.ireturn, 1) := by decide +kernel
set_option maxRecDepth 20000 in
set_option maxRecDepth 100000 in
theorem ggX5_atOnce_X5_ending : GoodIn wsX5_atOnce wsX5_ending := goodIn_r _ [8, 9, 10, 11, 12, 7, 13, 14, 15, 16, 17, 18, 19, 83, 84, 85, 86, 87, 88, 89, 90, 91, 92, 93, 94, 95, 96, 97, 98, 99, 100, 101, 102] (by rfl) (by decide +kernel)
set_option maxRecDepth 20000 in
theorem gX5_atOnce_X5_ending : GoodIn wsX5_atOnce (wsV RX5 131 RX5 yX5_ending wsX5_ending) := goodIn_app (goodIn_of _ (by decide +kernel)) ggX5_atOnce_X5_ending
set_option maxRecDepth 20000 in
set_option maxRecDepth 100000 in
theorem ggX5_atOnce_X5_solve : GoodIn wsX5_atOnce wsX5_solve := goodIn_r _ [23, 24, 1, 25, 26, 27, 28, 7, 29, 30, 31, 17, 18, 19, 32, 33, 34, 35, 36, 37, 38, 39, 40, 41, 42, 43, 44, 45, 46, 47, 48, 49, 83, 84, 85, 86, 87, 88, 89, 90, 91, 92, 93, 94, 95, 96, 97, 98, 99, 100, 101, 102] (by rfl) (by decide +kernel)
set_option maxRecDepth 20000 in
theorem gX5_atOnce_X5_solve : GoodIn wsX5_atOnce (wsV RX5 134 RX5 yX5_solve wsX5_solve) := goodIn_app (goodIn_of _ (by decide +kernel)) ggX5_atOnce_X5_solve
set_option maxRecDepth 20000 in
set_option maxRecDepth 100000 in
theorem ggX5_atOnce_X5_generate : GoodIn wsX5_atOnce wsX5_generate := goodIn_r _ [53, 2, 9, 10, 11, 12, 7, 13, 54, 55, 56, 57, 58, 59, 60, 61, 30, 31, 62, 63, 64, 65, 66, 67, 68, 69, 70, 14, 15, 16, 71, 72, 73, 74, 32, 33, 34, 35, 36, 37, 75, 76, 77, 78, 83, 84, 85, 86, 87, 88, 89, 90, 91, 92, 93, 94, 95, 96, 97, 98, 99, 100, 101, 102] (by rfl) (by decide +kernel)
set_option maxRecDepth 20000 in
theorem gX5_atOnce_X5_generate : GoodIn wsX5_atOnce (wsV RX5 137 RX5 yX5_generate wsX5_generate) := goodIn_app (goodIn_of _ (by decide +kernel)) ggX5_atOnce_X5_generate
set_option maxRecDepth 20000 in
set_option maxRecDepth 100000 in
theorem ggX5_atOnce_X5_material : GoodIn wsX5_atOnce wsX5_material := goodIn_r _ [82, 9, 10, 14, 15, 7, 16, 11, 12, 13, 83, 84, 85, 86, 87, 88, 89, 90, 91, 92, 93, 94, 95, 96, 97, 98, 99, 100, 101, 102] (by rfl) (by decide +kernel)
set_option maxRecDepth 20000 in
theorem gX5_atOnce_X5_material : GoodIn wsX5_atOnce (wsV RX5 141 RX5 yX5_material wsX5_material) := goodIn_app (goodIn_of _ (by decide +kernel)) ggX5_atOnce_X5_material
theorem dX5_atOnce_0 : decode cX5_atOnce 0 = .ok (.aload_n 0, 1) := by decide +kernel
theorem dX5_atOnce_1 : decode cX5_atOnce 1 = .ok (.iload_n 1, 1) := by decide +kernel
theorem dX5_atOnce_2 : decode cX5_atOnce 2 = .ok (.invokevirtual 131, 3) := by decide +kernel
theorem dX5_atOnce_5 : decode cX5_atOnce 5 = .ok (.istore_n 2, 1) := by decide +kernel
theorem dX5_atOnce_6 : decode cX5_atOnce 6 = .ok (.iload_n 2, 1) := by decide +kernel
theorem dX5_atOnce_7 : decode cX5_atOnce 7 = .ok (.ifCond .lt 41, 3) := by decide +kernel
theorem dX5_atOnce_10 : decode cX5_atOnce 10 = .ok (.aload_n 0, 1) := by decide +kernel
theorem dX5_atOnce_11 : decode cX5_atOnce 11 = .ok (.invokevirtual 134, 3) := by decide +kernel
theorem dX5_atOnce_14 : decode cX5_atOnce 14 = .ok (.aload_n 0, 1) := by decide +kernel
theorem dX5_atOnce_15 : decode cX5_atOnce 15 = .ok (.getfield 59, 3) := by decide +kernel
theorem dX5_atOnce_18 : decode cX5_atOnce 18 = .ok (.iload_n 2, 1) := by decide +kernel
theorem dX5_atOnce_19 : decode cX5_atOnce 19 = .ok (.iaload, 1) := by decide +kernel
theorem dX5_atOnce_20 : decode cX5_atOnce 20 = .ok (.istore_n 3, 1) := by decide +kernel
theorem dX5_atOnce_21 : decode cX5_atOnce 21 = .ok (.iload_n 3, 1) := by decide +kernel
theorem dX5_atOnce_22 : decode cX5_atOnce 22 = .ok (.ifCond .le 11, 3) := by decide +kernel
theorem dX5_atOnce_25 : decode cX5_atOnce 25 = .ok (.sipush 1001, 3) := by decide +kernel
theorem dX5_atOnce_28 : decode cX5_atOnce 28 = .ok (.iload_n 3, 1) := by decide +kernel
theorem dX5_atOnce_29 : decode cX5_atOnce 29 = .ok (.isub, 1) := by decide +kernel
theorem dX5_atOnce_30 : decode cX5_atOnce 30 = .ok (.goto 17, 3) := by decide +kernel
theorem dX5_atOnce_33 : decode cX5_atOnce 33 = .ok (.iload_n 3, 1) := by decide +kernel
theorem dX5_atOnce_34 : decode cX5_atOnce 34 = .ok (.ifCond .ge 12, 3) := by decide +kernel
theorem dX5_atOnce_37 : decode cX5_atOnce 37 = .ok (.iload_n 3, 1) := by decide +kernel
theorem dX5_atOnce_38 : decode cX5_atOnce 38 = .ok (.ineg, 1) := by decide +kernel
theorem dX5_atOnce_39 : decode cX5_atOnce 39 = .ok (.sipush 1001, 3) := by decide +kernel
theorem dX5_atOnce_42 : decode cX5_atOnce 42 = .ok (.isub, 1) := by decide +kernel
theorem dX5_atOnce_43 : decode cX5_atOnce 43 = .ok (.goto 4, 3) := by decide +kernel
theorem dX5_atOnce_46 : decode cX5_atOnce 46 = .ok (.iconst 0, 1) := by decide +kernel
theorem dX5_atOnce_47 : decode cX5_atOnce 47 = .ok (.ireturn, 1) := by decide +kernel
theorem dX5_atOnce_48 : decode cX5_atOnce 48 = .ok (.aload_n 0, 1) := by decide +kernel
theorem dX5_atOnce_49 : decode cX5_atOnce 49 = .ok (.iload_n 1, 1) := by decide +kernel
theorem dX5_atOnce_50 : decode cX5_atOnce 50 = .ok (.invokevirtual 137, 3) := by decide +kernel
theorem dX5_atOnce_53 : decode cX5_atOnce 53 = .ok (.aload_n 0, 1) := by decide +kernel
theorem dX5_atOnce_54 : decode cX5_atOnce 54 = .ok (.getfield 19, 3) := by decide +kernel
theorem dX5_atOnce_57 : decode cX5_atOnce 57 = .ok (.iload_n 1, 1) := by decide +kernel
theorem dX5_atOnce_58 : decode cX5_atOnce 58 = .ok (.iaload, 1) := by decide +kernel
theorem dX5_atOnce_59 : decode cX5_atOnce 59 = .ok (.ifCond .ne 7, 3) := by decide +kernel
theorem dX5_atOnce_62 : decode cX5_atOnce 62 = .ok (.sipush (-1000), 3) := by decide +kernel
theorem dX5_atOnce_65 : decode cX5_atOnce 65 = .ok (.ireturn, 1) := by decide +kernel
theorem dX5_atOnce_66 : decode cX5_atOnce 66 = .ok (.aload_n 0, 1) := by decide +kernel
theorem dX5_atOnce_67 : decode cX5_atOnce 67 = .ok (.getfield 22, 3) := by decide +kernel
theorem dX5_atOnce_70 : decode cX5_atOnce 70 = .ok (.iload_n 1, 1) := by decide +kernel
theorem dX5_atOnce_71 : decode cX5_atOnce 71 = .ok (.iaload, 1) := by decide +kernel
theorem dX5_atOnce_72 : decode cX5_atOnce 72 = .ok (.ifCond .ne 11, 3) := by decide +kernel
theorem dX5_atOnce_75 : decode cX5_atOnce 75 = .ok (.aload_n 0, 1) := by decide +kernel
theorem dX5_atOnce_76 : decode cX5_atOnce 76 = .ok (.iload_n 1, 1) := by decide +kernel
theorem dX5_atOnce_77 : decode cX5_atOnce 77 = .ok (.invokevirtual 141, 3) := by decide +kernel
theorem dX5_atOnce_80 : decode cX5_atOnce 80 = .ok (.goto 6, 3) := by decide +kernel
theorem dX5_atOnce_83 : decode cX5_atOnce 83 = .ok (.sipush (-9999), 3) := by decide +kernel
theorem dX5_atOnce_86 : decode cX5_atOnce 86 = .ok (.ireturn, 1) := by decide +kernel
set_option maxRecDepth 20000 in
set_option maxRecDepth 100000 in
theorem ggX5_search_X5_enter : GoodIn wsX5_search wsX5_enter := goodIn_r _ [9, 2, 3, 10, 11, 12, 8, 13, 14, 4, 1, 15, 16, 17, 18, 19, 20, 21, 22, 23, 24, 25, 26, 27, 28, 29, 30, 31, 32, 33, 34, 35, 36, 37, 38, 39, 40, 41, 42, 43, 44, 45, 46, 47, 48, 49, 50, 51, 52, 53, 54, 55, 56, 57, 58, 59, 60, 61, 62, 63, 64, 65, 66, 67, 68, 69, 70, 71, 72, 73, 74, 75, 76, 77, 78, 79, 80, 81, 82, 83, 84, 85, 86, 87, 88, 89, 90, 91, 92, 103, 104, 105, 106, 107, 108, 109, 110, 111, 112, 113, 114, 115, 116, 117, 118, 119, 120, 121, 122] (by rfl) (by decide +kernel)
set_option maxRecDepth 20000 in
theorem gX5_search_X5_enter : GoodIn wsX5_search (wsV RX5 144 RX5 yX5_enter wsX5_enter) := goodIn_app (goodIn_of _ (by decide +kernel)) ggX5_search_X5_enter
set_option maxRecDepth 20000 in
set_option maxRecDepth 100000 in
theorem ggX5_search_X5_make : GoodIn wsX5_search wsX5_make := goodIn_r _ [96, 77, 76, 19, 20, 97, 98, 8, 99, 100, 101, 102, 42, 43, 44, 45, 46, 47, 103, 104, 105, 106, 107, 108, 109, 110, 111, 112, 113, 114, 115, 116, 117, 118, 119, 120, 121, 122] (by rfl) (by decide +kernel)
set_option maxRecDepth 20000 in
theorem gX5_search_X5_make : GoodIn wsX5_search (wsV RX5 147 RX5 yX5_make wsX5_make) := goodIn_app (goodIn_of _ (by decide +kernel)) ggX5_search_X5_make
theorem dX5_search_0 : decode cX5_search 0 = .ok (.iload_n 1, 1) := by decide +kernel
theorem dX5_search_1 : decode cX5_search 1 = .ok (.istore_n 3, 1) := by decide +kernel
theorem dX5_search_2 : decode cX5_search 2 = .ok (.aload_n 0, 1) := by decide +kernel
theorem dX5_search_3 : decode cX5_search 3 = .ok (.getfield 22, 3) := by decide +kernel
theorem dX5_search_6 : decode cX5_search 6 = .ok (.iload_n 3, 1) := by decide +kernel
theorem dX5_search_7 : decode cX5_search 7 = .ok (.iload_n 2, 1) := by decide +kernel
theorem dX5_search_8 : decode cX5_search 8 = .ok (.iastore, 1) := by decide +kernel
theorem dX5_search_9 : decode cX5_search 9 = .ok (.aload_n 0, 1) := by decide +kernel
theorem dX5_search_10 : decode cX5_search 10 = .ok (.iload_n 3, 1) := by decide +kernel
theorem dX5_search_11 : decode cX5_search 11 = .ok (.invokevirtual 144, 3) := by decide +kernel
theorem dX5_search_14 : decode cX5_search 14 = .ok (.istore 4, 2) := by decide +kernel
theorem dX5_search_16 : decode cX5_search 16 = .ok (.iload_n 3, 1) := by decide +kernel
theorem dX5_search_17 : decode cX5_search 17 = .ok (.iload_n 1, 1) := by decide +kernel
theorem dX5_search_18 : decode cX5_search 18 = .ok (.if_icmp .gt 11, 3) := by decide +kernel
theorem dX5_search_21 : decode cX5_search 21 = .ok (.iload 4, 2) := by decide +kernel
theorem dX5_search_23 : decode cX5_search 23 = .ok (.sipush (-9999), 3) := by decide +kernel
theorem dX5_search_26 : decode cX5_search 26 = .ok (.if_icmp .ne 126, 3) := by decide +kernel
theorem dX5_search_29 : decode cX5_search 29 = .ok (.iload 4, 2) := by decide +kernel
theorem dX5_search_31 : decode cX5_search 31 = .ok (.sipush (-9999), 3) := by decide +kernel
theorem dX5_search_34 : decode cX5_search 34 = .ok (.if_icmp .ne 43, 3) := by decide +kernel
theorem dX5_search_37 : decode cX5_search 37 = .ok (.aload_n 0, 1) := by decide +kernel
theorem dX5_search_38 : decode cX5_search 38 = .ok (.iload_n 3, 1) := by decide +kernel
theorem dX5_search_39 : decode cX5_search 39 = .ok (.aload_n 0, 1) := by decide +kernel
theorem dX5_search_40 : decode cX5_search 40 = .ok (.getfield 25, 3) := by decide +kernel
theorem dX5_search_43 : decode cX5_search 43 = .ok (.iload_n 3, 1) := by decide +kernel
theorem dX5_search_44 : decode cX5_search 44 = .ok (.iaload, 1) := by decide +kernel
theorem dX5_search_45 : decode cX5_search 45 = .ok (.invokevirtual 147, 3) := by decide +kernel
theorem dX5_search_48 : decode cX5_search 48 = .ok (.aload_n 0, 1) := by decide +kernel
theorem dX5_search_49 : decode cX5_search 49 = .ok (.getfield 22, 3) := by decide +kernel
theorem dX5_search_52 : decode cX5_search 52 = .ok (.iload_n 3, 1) := by decide +kernel
theorem dX5_search_53 : decode cX5_search 53 = .ok (.iconst 1, 1) := by decide +kernel
theorem dX5_search_54 : decode cX5_search 54 = .ok (.iadd, 1) := by decide +kernel
theorem dX5_search_55 : decode cX5_search 55 = .ok (.aload_n 0, 1) := by decide +kernel
theorem dX5_search_56 : decode cX5_search 56 = .ok (.getfield 22, 3) := by decide +kernel
theorem dX5_search_59 : decode cX5_search 59 = .ok (.iload_n 3, 1) := by decide +kernel
theorem dX5_search_60 : decode cX5_search 60 = .ok (.iaload, 1) := by decide +kernel
theorem dX5_search_61 : decode cX5_search 61 = .ok (.iconst 1, 1) := by decide +kernel
theorem dX5_search_62 : decode cX5_search 62 = .ok (.isub, 1) := by decide +kernel
theorem dX5_search_63 : decode cX5_search 63 = .ok (.iastore, 1) := by decide +kernel
theorem dX5_search_64 : decode cX5_search 64 = .ok (.iinc 3 1, 3) := by decide +kernel
theorem dX5_search_67 : decode cX5_search 67 = .ok (.aload_n 0, 1) := by decide +kernel
theorem dX5_search_68 : decode cX5_search 68 = .ok (.iload_n 3, 1) := by decide +kernel
theorem dX5_search_69 : decode cX5_search 69 = .ok (.invokevirtual 144, 3) := by decide +kernel
theorem dX5_search_72 : decode cX5_search 72 = .ok (.istore 4, 2) := by decide +kernel
theorem dX5_search_74 : decode cX5_search 74 = .ok (.goto (-58), 3) := by decide +kernel
theorem dX5_search_77 : decode cX5_search 77 = .ok (.iinc 3 (-1), 3) := by decide +kernel
theorem dX5_search_80 : decode cX5_search 80 = .ok (.aload_n 0, 1) := by decide +kernel
theorem dX5_search_81 : decode cX5_search 81 = .ok (.getfield 28, 3) := by decide +kernel
theorem dX5_search_84 : decode cX5_search 84 = .ok (.iload_n 3, 1) := by decide +kernel
theorem dX5_search_85 : decode cX5_search 85 = .ok (.iload 4, 2) := by decide +kernel
theorem dX5_search_87 : decode cX5_search 87 = .ok (.ineg, 1) := by decide +kernel
theorem dX5_search_88 : decode cX5_search 88 = .ok (.aload_n 0, 1) := by decide +kernel
theorem dX5_search_89 : decode cX5_search 89 = .ok (.getfield 28, 3) := by decide +kernel
theorem dX5_search_92 : decode cX5_search 92 = .ok (.iload_n 3, 1) := by decide +kernel
theorem dX5_search_93 : decode cX5_search 93 = .ok (.iaload, 1) := by decide +kernel
theorem dX5_search_94 : decode cX5_search 94 = .ok (.if_icmp .le 9, 3) := by decide +kernel
theorem dX5_search_97 : decode cX5_search 97 = .ok (.iload 4, 2) := by decide +kernel
theorem dX5_search_99 : decode cX5_search 99 = .ok (.ineg, 1) := by decide +kernel
theorem dX5_search_100 : decode cX5_search 100 = .ok (.goto 9, 3) := by decide +kernel
theorem dX5_search_103 : decode cX5_search 103 = .ok (.aload_n 0, 1) := by decide +kernel
theorem dX5_search_104 : decode cX5_search 104 = .ok (.getfield 28, 3) := by decide +kernel
theorem dX5_search_107 : decode cX5_search 107 = .ok (.iload_n 3, 1) := by decide +kernel
theorem dX5_search_108 : decode cX5_search 108 = .ok (.iaload, 1) := by decide +kernel
theorem dX5_search_109 : decode cX5_search 109 = .ok (.iastore, 1) := by decide +kernel
theorem dX5_search_110 : decode cX5_search 110 = .ok (.aload_n 0, 1) := by decide +kernel
theorem dX5_search_111 : decode cX5_search 111 = .ok (.getfield 25, 3) := by decide +kernel
theorem dX5_search_114 : decode cX5_search 114 = .ok (.iload_n 3, 1) := by decide +kernel
theorem dX5_search_115 : decode cX5_search 115 = .ok (.dup2, 1) := by decide +kernel
theorem dX5_search_116 : decode cX5_search 116 = .ok (.iaload, 1) := by decide +kernel
theorem dX5_search_117 : decode cX5_search 117 = .ok (.iconst 1, 1) := by decide +kernel
theorem dX5_search_118 : decode cX5_search 118 = .ok (.iadd, 1) := by decide +kernel
theorem dX5_search_119 : decode cX5_search 119 = .ok (.iastore, 1) := by decide +kernel
theorem dX5_search_120 : decode cX5_search 120 = .ok (.aload_n 0, 1) := by decide +kernel
theorem dX5_search_121 : decode cX5_search 121 = .ok (.getfield 25, 3) := by decide +kernel
theorem dX5_search_124 : decode cX5_search 124 = .ok (.iload_n 3, 1) := by decide +kernel
theorem dX5_search_125 : decode cX5_search 125 = .ok (.iaload, 1) := by decide +kernel
theorem dX5_search_126 : decode cX5_search 126 = .ok (.aload_n 0, 1) := by decide +kernel
theorem dX5_search_127 : decode cX5_search 127 = .ok (.getfield 19, 3) := by decide +kernel
theorem dX5_search_130 : decode cX5_search 130 = .ok (.iload_n 3, 1) := by decide +kernel
theorem dX5_search_131 : decode cX5_search 131 = .ok (.iaload, 1) := by decide +kernel
theorem dX5_search_132 : decode cX5_search 132 = .ok (.if_icmp .ge 9, 3) := by decide +kernel
theorem dX5_search_135 : decode cX5_search 135 = .ok (.sipush (-9999), 3) := by decide +kernel
theorem dX5_search_138 : decode cX5_search 138 = .ok (.goto 9, 3) := by decide +kernel
theorem dX5_search_141 : decode cX5_search 141 = .ok (.aload_n 0, 1) := by decide +kernel
theorem dX5_search_142 : decode cX5_search 142 = .ok (.getfield 28, 3) := by decide +kernel
theorem dX5_search_145 : decode cX5_search 145 = .ok (.iload_n 3, 1) := by decide +kernel
theorem dX5_search_146 : decode cX5_search 146 = .ok (.iaload, 1) := by decide +kernel
theorem dX5_search_147 : decode cX5_search 147 = .ok (.istore 4, 2) := by decide +kernel
theorem dX5_search_149 : decode cX5_search 149 = .ok (.goto (-133), 3) := by decide +kernel
theorem dX5_search_152 : decode cX5_search 152 = .ok (.iload 4, 2) := by decide +kernel
theorem dX5_search_154 : decode cX5_search 154 = .ok (.ireturn, 1) := by decide +kernel
set_option maxRecDepth 20000 in
set_option maxRecDepth 100000 in
theorem ggX5_enter_X5_atOnce : GoodIn wsX5_enter wsX5_atOnce := goodIn_r _ [7, 8, 9, 10, 11, 12, 13, 6, 14, 15, 16, 17, 18, 19, 20, 21, 22, 23, 24, 25, 26, 27, 28, 29, 30, 31, 32, 33, 34, 35, 36, 37, 38, 39, 40, 41, 42, 43, 44, 45, 46, 47, 48, 49, 50, 51, 52, 53, 54, 55, 56, 57, 58, 59, 60, 61, 62, 63, 64, 65, 66, 67, 68, 69, 70, 71, 72, 73, 74, 75, 76, 77, 78, 79, 80, 81, 82, 83, 84, 85, 86, 87, 88, 89, 90, 91, 92, 93, 94, 95, 96, 97, 98, 99, 100, 101, 102, 103, 104, 105, 106, 107, 108] (by rfl) (by decide +kernel)
set_option maxRecDepth 20000 in
theorem gX5_enter_X5_atOnce : GoodIn wsX5_enter (wsV RX5 150 RX5 yX5_atOnce wsX5_atOnce) := goodIn_app (goodIn_of _ (by decide +kernel)) ggX5_enter_X5_atOnce
theorem dX5_enter_0 : decode cX5_enter 0 = .ok (.aload_n 0, 1) := by decide +kernel
theorem dX5_enter_1 : decode cX5_enter 1 = .ok (.getfield 25, 3) := by decide +kernel
theorem dX5_enter_4 : decode cX5_enter 4 = .ok (.iload_n 1, 1) := by decide +kernel
theorem dX5_enter_5 : decode cX5_enter 5 = .ok (.iconst 0, 1) := by decide +kernel
theorem dX5_enter_6 : decode cX5_enter 6 = .ok (.iastore, 1) := by decide +kernel
theorem dX5_enter_7 : decode cX5_enter 7 = .ok (.aload_n 0, 1) := by decide +kernel
theorem dX5_enter_8 : decode cX5_enter 8 = .ok (.getfield 28, 3) := by decide +kernel
theorem dX5_enter_11 : decode cX5_enter 11 = .ok (.iload_n 1, 1) := by decide +kernel
theorem dX5_enter_12 : decode cX5_enter 12 = .ok (.sipush (-9999), 3) := by decide +kernel
theorem dX5_enter_15 : decode cX5_enter 15 = .ok (.iastore, 1) := by decide +kernel
theorem dX5_enter_16 : decode cX5_enter 16 = .ok (.aload_n 0, 1) := by decide +kernel
theorem dX5_enter_17 : decode cX5_enter 17 = .ok (.iload_n 1, 1) := by decide +kernel
theorem dX5_enter_18 : decode cX5_enter 18 = .ok (.invokevirtual 150, 3) := by decide +kernel
theorem dX5_enter_21 : decode cX5_enter 21 = .ok (.ireturn, 1) := by decide +kernel
set_option maxRecDepth 20000 in
set_option maxRecDepth 100000 in
theorem ggX5_value_X5_search : GoodIn wsX5_value wsX5_search := goodIn_r _ [5, 6, 7, 8, 9, 10, 11, 12, 4, 13, 14, 15, 16, 17, 18, 19, 20, 21, 22, 23, 24, 25, 26, 27, 28, 29, 30, 31, 32, 33, 34, 35, 36, 37, 38, 39, 40, 41, 42, 43, 44, 45, 46, 47, 48, 49, 50, 51, 52, 53, 54, 55, 56, 57, 58, 59, 60, 61, 62, 63, 64, 65, 66, 67, 68, 69, 70, 71, 72, 73, 74, 75, 76, 77, 78, 79, 80, 81, 82, 83, 84, 85, 86, 87, 88, 89, 90, 91, 92, 93, 94, 95, 96, 97, 98, 99, 100, 101, 102, 103, 104, 105, 106, 107, 108, 109, 110, 111, 112, 113, 114, 115, 116, 117, 118, 119, 120, 121, 122, 123, 124, 125, 126] (by rfl) (by decide +kernel)
set_option maxRecDepth 20000 in
theorem gX5_value_X5_search : GoodIn wsX5_value (wsV RX5 153 RX5 yX5_search wsX5_search) := goodIn_app (goodIn_of _ (by decide +kernel)) ggX5_value_X5_search
theorem dX5_value_0 : decode cX5_value 0 = .ok (.iload_n 1, 1) := by decide +kernel
theorem dX5_value_1 : decode cX5_value 1 = .ok (.ifCond .lt 8, 3) := by decide +kernel
theorem dX5_value_4 : decode cX5_value 4 = .ok (.iload_n 1, 1) := by decide +kernel
theorem dX5_value_5 : decode cX5_value 5 = .ok (.iconst 4, 1) := by decide +kernel
theorem dX5_value_6 : decode cX5_value 6 = .ok (.if_icmp .le 9, 3) := by decide +kernel
theorem dX5_value_9 : decode cX5_value 9 = .ok (.sipush (-2000), 3) := by decide +kernel
theorem dX5_value_12 : decode cX5_value 12 = .ok (.goto 9, 3) := by decide +kernel
theorem dX5_value_15 : decode cX5_value 15 = .ok (.aload_n 0, 1) := by decide +kernel
theorem dX5_value_16 : decode cX5_value 16 = .ok (.iconst 0, 1) := by decide +kernel
theorem dX5_value_17 : decode cX5_value 17 = .ok (.iload_n 1, 1) := by decide +kernel
theorem dX5_value_18 : decode cX5_value 18 = .ok (.invokevirtual 153, 3) := by decide +kernel
theorem dX5_value_21 : decode cX5_value 21 = .ok (.ireturn, 1) := by decide +kernel
set_option maxRecDepth 20000 in
set_option maxRecDepth 100000 in
theorem ggX5_best_X5_generate : GoodIn wsX5_best wsX5_generate := goodIn_r _ [6, 1, 7, 8, 9, 10, 5, 11, 12, 13, 14, 15, 16, 17, 18, 19, 20, 21, 22, 23, 24, 25, 26, 27, 28, 29, 30, 31, 32, 33, 34, 35, 36, 37, 38, 39, 40, 41, 42, 43, 44, 45, 46, 47, 107, 108, 109, 110, 111, 112, 113, 114, 115, 116, 117, 118, 119, 120, 121, 122, 123, 124, 125, 126] (by rfl) (by decide +kernel)
set_option maxRecDepth 20000 in
theorem gX5_best_X5_generate : GoodIn wsX5_best (wsV RX5 137 RX5 yX5_generate wsX5_generate) := goodIn_app (goodIn_of _ (by decide +kernel)) ggX5_best_X5_generate
set_option maxRecDepth 20000 in
set_option maxRecDepth 100000 in
theorem ggX5_best_X5_make : GoodIn wsX5_best wsX5_make := goodIn_r _ [51, 27, 26, 7, 8, 52, 53, 5, 54, 55, 56, 57, 38, 39, 40, 41, 42, 43, 107, 108, 109, 110, 111, 112, 113, 114, 115, 116, 117, 118, 119, 120, 121, 122, 123, 124, 125, 126] (by rfl) (by decide +kernel)
set_option maxRecDepth 20000 in
theorem gX5_best_X5_make : GoodIn wsX5_best (wsV RX5 147 RX5 yX5_make wsX5_make) := goodIn_app (goodIn_of _ (by decide +kernel)) ggX5_best_X5_make
set_option maxRecDepth 20000 in
set_option maxRecDepth 100000 in
theorem ggX5_best_X5_search : GoodIn wsX5_best wsX5_search := goodIn_r _ [61, 62, 63, 64, 1, 65, 66, 67, 5, 68, 69, 70, 71, 72, 73, 74, 75, 76, 77, 7, 8, 9, 10, 11, 31, 32, 33, 78, 79, 80, 81, 82, 83, 84, 85, 86, 87, 88, 89, 90, 20, 21, 38, 39, 40, 41, 42, 43, 91, 92, 93, 94, 95, 96, 97, 98, 99, 100, 101, 102, 2, 3, 4, 6, 12, 13, 14, 15, 16, 17, 18, 19, 22, 23, 24, 25, 26, 27, 28, 29, 30, 34, 35, 36, 37, 44, 45, 46, 47, 103, 104, 105, 106, 48, 49, 50, 51, 52, 53, 54, 55, 56, 57, 107, 108, 109, 110, 111, 112, 113, 114, 115, 116, 117, 118, 119, 120, 121, 122, 123, 124, 125, 126] (by rfl) (by decide +kernel)
set_option maxRecDepth 20000 in
theorem gX5_best_X5_search : GoodIn wsX5_best (wsV RX5 153 RX5 yX5_search wsX5_search) := goodIn_app (goodIn_of _ (by decide +kernel)) ggX5_best_X5_search
theorem dX5_best_0 : decode cX5_best 0 = .ok (.aload_n 0, 1) := by decide +kernel
theorem dX5_best_1 : decode cX5_best 1 = .ok (.iconst 0, 1) := by decide +kernel
theorem dX5_best_2 : decode cX5_best 2 = .ok (.invokevirtual 137, 3) := by decide +kernel
theorem dX5_best_5 : decode cX5_best 5 = .ok (.iload_n 1, 1) := by decide +kernel
theorem dX5_best_6 : decode cX5_best 6 = .ok (.iconst 1, 1) := by decide +kernel
theorem dX5_best_7 : decode cX5_best 7 = .ok (.if_icmp .lt 17, 3) := by decide +kernel
theorem dX5_best_10 : decode cX5_best 10 = .ok (.iload_n 1, 1) := by decide +kernel
theorem dX5_best_11 : decode cX5_best 11 = .ok (.iconst 4, 1) := by decide +kernel
theorem dX5_best_12 : decode cX5_best 12 = .ok (.if_icmp .gt 12, 3) := by decide +kernel
theorem dX5_best_15 : decode cX5_best 15 = .ok (.aload_n 0, 1) := by decide +kernel
theorem dX5_best_16 : decode cX5_best 16 = .ok (.getfield 19, 3) := by decide +kernel
theorem dX5_best_19 : decode cX5_best 19 = .ok (.iconst 0, 1) := by decide +kernel
theorem dX5_best_20 : decode cX5_best 20 = .ok (.iaload, 1) := by decide +kernel
theorem dX5_best_21 : decode cX5_best 21 = .ok (.ifCond .ne 5, 3) := by decide +kernel
theorem dX5_best_24 : decode cX5_best 24 = .ok (.iconst (-1), 1) := by decide +kernel
theorem dX5_best_25 : decode cX5_best 25 = .ok (.ireturn, 1) := by decide +kernel
theorem dX5_best_26 : decode cX5_best 26 = .ok (.iconst (-1), 1) := by decide +kernel
theorem dX5_best_27 : decode cX5_best 27 = .ok (.istore_n 2, 1) := by decide +kernel
theorem dX5_best_28 : decode cX5_best 28 = .ok (.iconst 0, 1) := by decide +kernel
theorem dX5_best_29 : decode cX5_best 29 = .ok (.istore_n 3, 1) := by decide +kernel
theorem dX5_best_30 : decode cX5_best 30 = .ok (.iconst 0, 1) := by decide +kernel
theorem dX5_best_31 : decode cX5_best 31 = .ok (.istore 4, 2) := by decide +kernel
theorem dX5_best_33 : decode cX5_best 33 = .ok (.iload 4, 2) := by decide +kernel
theorem dX5_best_35 : decode cX5_best 35 = .ok (.aload_n 0, 1) := by decide +kernel
theorem dX5_best_36 : decode cX5_best 36 = .ok (.getfield 19, 3) := by decide +kernel
theorem dX5_best_39 : decode cX5_best 39 = .ok (.iconst 0, 1) := by decide +kernel
theorem dX5_best_40 : decode cX5_best 40 = .ok (.iaload, 1) := by decide +kernel
theorem dX5_best_41 : decode cX5_best 41 = .ok (.if_icmp .ge 42, 3) := by decide +kernel
theorem dX5_best_44 : decode cX5_best 44 = .ok (.aload_n 0, 1) := by decide +kernel
theorem dX5_best_45 : decode cX5_best 45 = .ok (.iconst 0, 1) := by decide +kernel
theorem dX5_best_46 : decode cX5_best 46 = .ok (.iload 4, 2) := by decide +kernel
theorem dX5_best_48 : decode cX5_best 48 = .ok (.invokevirtual 147, 3) := by decide +kernel
theorem dX5_best_51 : decode cX5_best 51 = .ok (.aload_n 0, 1) := by decide +kernel
theorem dX5_best_52 : decode cX5_best 52 = .ok (.iconst 1, 1) := by decide +kernel
theorem dX5_best_53 : decode cX5_best 53 = .ok (.iload_n 1, 1) := by decide +kernel
theorem dX5_best_54 : decode cX5_best 54 = .ok (.iconst 1, 1) := by decide +kernel
theorem dX5_best_55 : decode cX5_best 55 = .ok (.isub, 1) := by decide +kernel
theorem dX5_best_56 : decode cX5_best 56 = .ok (.invokevirtual 153, 3) := by decide +kernel
theorem dX5_best_59 : decode cX5_best 59 = .ok (.istore 5, 2) := by decide +kernel
theorem dX5_best_61 : decode cX5_best 61 = .ok (.iload_n 2, 1) := by decide +kernel
theorem dX5_best_62 : decode cX5_best 62 = .ok (.ifCond .lt 9, 3) := by decide +kernel
theorem dX5_best_65 : decode cX5_best 65 = .ok (.iload 5, 2) := by decide +kernel
theorem dX5_best_67 : decode cX5_best 67 = .ok (.iload_n 3, 1) := by decide +kernel
theorem dX5_best_68 : decode cX5_best 68 = .ok (.if_icmp .ge 9, 3) := by decide +kernel
theorem dX5_best_71 : decode cX5_best 71 = .ok (.iload 4, 2) := by decide +kernel
theorem dX5_best_73 : decode cX5_best 73 = .ok (.istore_n 2, 1) := by decide +kernel
theorem dX5_best_74 : decode cX5_best 74 = .ok (.iload 5, 2) := by decide +kernel
theorem dX5_best_76 : decode cX5_best 76 = .ok (.istore_n 3, 1) := by decide +kernel
theorem dX5_best_77 : decode cX5_best 77 = .ok (.iinc 4 1, 3) := by decide +kernel
theorem dX5_best_80 : decode cX5_best 80 = .ok (.goto (-47), 3) := by decide +kernel
theorem dX5_best_83 : decode cX5_best 83 = .ok (.iload_n 2, 1) := by decide +kernel
theorem dX5_best_84 : decode cX5_best 84 = .ok (.ireturn, 1) := by decide +kernel
set_option maxRecDepth 20000 in
set_option maxRecDepth 100000 in
theorem ggX5_ways_X5_generate : GoodIn wsX5_ways wsX5_generate := goodIn_r _ [7, 2, 8, 9, 10, 11, 6, 12, 13, 14, 15, 16, 17, 18, 19, 20, 21, 22, 23, 24, 25, 26, 27, 28, 29, 30, 31, 32, 33, 34, 35, 36, 37, 38, 39, 40, 41, 42, 43, 44, 45, 46, 47, 48, 59, 60, 61, 62, 63, 64, 65, 66, 67, 68, 69, 70, 71, 72, 73, 74, 75, 76, 77, 78] (by rfl) (by decide +kernel)
set_option maxRecDepth 20000 in
theorem gX5_ways_X5_generate : GoodIn wsX5_ways (wsV RX5 137 RX5 yX5_generate wsX5_generate) := goodIn_app (goodIn_of _ (by decide +kernel)) ggX5_ways_X5_generate
set_option maxRecDepth 20000 in
set_option maxRecDepth 100000 in
theorem ggX5_ways_X5_make : GoodIn wsX5_ways wsX5_make := goodIn_r _ [52, 28, 27, 8, 9, 53, 54, 6, 55, 56, 57, 58, 39, 40, 41, 42, 43, 44, 59, 60, 61, 62, 63, 64, 65, 66, 67, 68, 69, 70, 71, 72, 73, 74, 75, 76, 77, 78] (by rfl) (by decide +kernel)
set_option maxRecDepth 20000 in
theorem gX5_ways_X5_make : GoodIn wsX5_ways (wsV RX5 147 RX5 yX5_make wsX5_make) := goodIn_app (goodIn_of _ (by decide +kernel)) ggX5_ways_X5_make
theorem dX5_ways_0 : decode cX5_ways 0 = .ok (.iload_n 1, 1) := by decide +kernel
theorem dX5_ways_1 : decode cX5_ways 1 = .ok (.ifCond .lt 8, 3) := by decide +kernel
theorem dX5_ways_4 : decode cX5_ways 4 = .ok (.iload_n 1, 1) := by decide +kernel
theorem dX5_ways_5 : decode cX5_ways 5 = .ok (.iconst 4, 1) := by decide +kernel
theorem dX5_ways_6 : decode cX5_ways 6 = .ok (.if_icmp .le 5, 3) := by decide +kernel
theorem dX5_ways_9 : decode cX5_ways 9 = .ok (.iconst (-1), 1) := by decide +kernel
theorem dX5_ways_10 : decode cX5_ways 10 = .ok (.ireturn, 1) := by decide +kernel
theorem dX5_ways_11 : decode cX5_ways 11 = .ok (.iload_n 1, 1) := by decide +kernel
theorem dX5_ways_12 : decode cX5_ways 12 = .ok (.ifCond .ne 5, 3) := by decide +kernel
theorem dX5_ways_15 : decode cX5_ways 15 = .ok (.iconst 1, 1) := by decide +kernel
theorem dX5_ways_16 : decode cX5_ways 16 = .ok (.ireturn, 1) := by decide +kernel
theorem dX5_ways_17 : decode cX5_ways 17 = .ok (.iconst 0, 1) := by decide +kernel
theorem dX5_ways_18 : decode cX5_ways 18 = .ok (.istore_n 2, 1) := by decide +kernel
theorem dX5_ways_19 : decode cX5_ways 19 = .ok (.iconst 0, 1) := by decide +kernel
theorem dX5_ways_20 : decode cX5_ways 20 = .ok (.istore_n 3, 1) := by decide +kernel
theorem dX5_ways_21 : decode cX5_ways 21 = .ok (.aload_n 0, 1) := by decide +kernel
theorem dX5_ways_22 : decode cX5_ways 22 = .ok (.iconst 0, 1) := by decide +kernel
theorem dX5_ways_23 : decode cX5_ways 23 = .ok (.invokevirtual 137, 3) := by decide +kernel
theorem dX5_ways_26 : decode cX5_ways 26 = .ok (.aload_n 0, 1) := by decide +kernel
theorem dX5_ways_27 : decode cX5_ways 27 = .ok (.getfield 25, 3) := by decide +kernel
theorem dX5_ways_30 : decode cX5_ways 30 = .ok (.iconst 0, 1) := by decide +kernel
theorem dX5_ways_31 : decode cX5_ways 31 = .ok (.iconst 0, 1) := by decide +kernel
theorem dX5_ways_32 : decode cX5_ways 32 = .ok (.iastore, 1) := by decide +kernel
theorem dX5_ways_33 : decode cX5_ways 33 = .ok (.iload_n 3, 1) := by decide +kernel
theorem dX5_ways_34 : decode cX5_ways 34 = .ok (.ifCond .lt 85, 3) := by decide +kernel
theorem dX5_ways_37 : decode cX5_ways 37 = .ok (.iload_n 3, 1) := by decide +kernel
theorem dX5_ways_38 : decode cX5_ways 38 = .ok (.iload_n 1, 1) := by decide +kernel
theorem dX5_ways_39 : decode cX5_ways 39 = .ok (.iconst 1, 1) := by decide +kernel
theorem dX5_ways_40 : decode cX5_ways 40 = .ok (.isub, 1) := by decide +kernel
theorem dX5_ways_41 : decode cX5_ways 41 = .ok (.if_icmp .ne 18, 3) := by decide +kernel
theorem dX5_ways_44 : decode cX5_ways 44 = .ok (.iload_n 2, 1) := by decide +kernel
theorem dX5_ways_45 : decode cX5_ways 45 = .ok (.aload_n 0, 1) := by decide +kernel
theorem dX5_ways_46 : decode cX5_ways 46 = .ok (.getfield 19, 3) := by decide +kernel
theorem dX5_ways_49 : decode cX5_ways 49 = .ok (.iload_n 3, 1) := by decide +kernel
theorem dX5_ways_50 : decode cX5_ways 50 = .ok (.iaload, 1) := by decide +kernel
theorem dX5_ways_51 : decode cX5_ways 51 = .ok (.iadd, 1) := by decide +kernel
theorem dX5_ways_52 : decode cX5_ways 52 = .ok (.istore_n 2, 1) := by decide +kernel
theorem dX5_ways_53 : decode cX5_ways 53 = .ok (.iinc 3 (-1), 3) := by decide +kernel
theorem dX5_ways_56 : decode cX5_ways 56 = .ok (.goto (-23), 3) := by decide +kernel
theorem dX5_ways_59 : decode cX5_ways 59 = .ok (.aload_n 0, 1) := by decide +kernel
theorem dX5_ways_60 : decode cX5_ways 60 = .ok (.getfield 25, 3) := by decide +kernel
theorem dX5_ways_63 : decode cX5_ways 63 = .ok (.iload_n 3, 1) := by decide +kernel
theorem dX5_ways_64 : decode cX5_ways 64 = .ok (.iaload, 1) := by decide +kernel
theorem dX5_ways_65 : decode cX5_ways 65 = .ok (.aload_n 0, 1) := by decide +kernel
theorem dX5_ways_66 : decode cX5_ways 66 = .ok (.getfield 19, 3) := by decide +kernel
theorem dX5_ways_69 : decode cX5_ways 69 = .ok (.iload_n 3, 1) := by decide +kernel
theorem dX5_ways_70 : decode cX5_ways 70 = .ok (.iaload, 1) := by decide +kernel
theorem dX5_ways_71 : decode cX5_ways 71 = .ok (.if_icmp .ge 42, 3) := by decide +kernel
theorem dX5_ways_74 : decode cX5_ways 74 = .ok (.aload_n 0, 1) := by decide +kernel
theorem dX5_ways_75 : decode cX5_ways 75 = .ok (.iload_n 3, 1) := by decide +kernel
theorem dX5_ways_76 : decode cX5_ways 76 = .ok (.aload_n 0, 1) := by decide +kernel
theorem dX5_ways_77 : decode cX5_ways 77 = .ok (.getfield 25, 3) := by decide +kernel
theorem dX5_ways_80 : decode cX5_ways 80 = .ok (.iload_n 3, 1) := by decide +kernel
theorem dX5_ways_81 : decode cX5_ways 81 = .ok (.iaload, 1) := by decide +kernel
theorem dX5_ways_82 : decode cX5_ways 82 = .ok (.invokevirtual 147, 3) := by decide +kernel
theorem dX5_ways_85 : decode cX5_ways 85 = .ok (.aload_n 0, 1) := by decide +kernel
theorem dX5_ways_86 : decode cX5_ways 86 = .ok (.getfield 25, 3) := by decide +kernel
theorem dX5_ways_89 : decode cX5_ways 89 = .ok (.iload_n 3, 1) := by decide +kernel
theorem dX5_ways_90 : decode cX5_ways 90 = .ok (.dup2, 1) := by decide +kernel
theorem dX5_ways_91 : decode cX5_ways 91 = .ok (.iaload, 1) := by decide +kernel
theorem dX5_ways_92 : decode cX5_ways 92 = .ok (.iconst 1, 1) := by decide +kernel
theorem dX5_ways_93 : decode cX5_ways 93 = .ok (.iadd, 1) := by decide +kernel
theorem dX5_ways_94 : decode cX5_ways 94 = .ok (.iastore, 1) := by decide +kernel
theorem dX5_ways_95 : decode cX5_ways 95 = .ok (.iinc 3 1, 3) := by decide +kernel
theorem dX5_ways_98 : decode cX5_ways 98 = .ok (.aload_n 0, 1) := by decide +kernel
theorem dX5_ways_99 : decode cX5_ways 99 = .ok (.iload_n 3, 1) := by decide +kernel
theorem dX5_ways_100 : decode cX5_ways 100 = .ok (.invokevirtual 137, 3) := by decide +kernel
theorem dX5_ways_103 : decode cX5_ways 103 = .ok (.aload_n 0, 1) := by decide +kernel
theorem dX5_ways_104 : decode cX5_ways 104 = .ok (.getfield 25, 3) := by decide +kernel
theorem dX5_ways_107 : decode cX5_ways 107 = .ok (.iload_n 3, 1) := by decide +kernel
theorem dX5_ways_108 : decode cX5_ways 108 = .ok (.iconst 0, 1) := by decide +kernel
theorem dX5_ways_109 : decode cX5_ways 109 = .ok (.iastore, 1) := by decide +kernel
theorem dX5_ways_110 : decode cX5_ways 110 = .ok (.goto (-77), 3) := by decide +kernel
theorem dX5_ways_113 : decode cX5_ways 113 = .ok (.iinc 3 (-1), 3) := by decide +kernel
theorem dX5_ways_116 : decode cX5_ways 116 = .ok (.goto (-83), 3) := by decide +kernel
theorem dX5_ways_119 : decode cX5_ways 119 = .ok (.iload_n 2, 1) := by decide +kernel
theorem dX5_ways_120 : decode cX5_ways 120 = .ok (.ireturn, 1) := by decide +kernel
theorem dX5_begin_0 : decode cX5_begin 0 = .ok (.iconst 0, 1) := by decide +kernel
theorem dX5_begin_1 : decode cX5_begin 1 = .ok (.istore_n 1, 1) := by decide +kernel
theorem dX5_begin_2 : decode cX5_begin 2 = .ok (.iload_n 1, 1) := by decide +kernel
theorem dX5_begin_3 : decode cX5_begin 3 = .ok (.bipush 18, 2) := by decide +kernel
theorem dX5_begin_5 : decode cX5_begin 5 = .ok (.if_icmp .ge 36, 3) := by decide +kernel
theorem dX5_begin_8 : decode cX5_begin 8 = .ok (.aload_n 0, 1) := by decide +kernel
theorem dX5_begin_9 : decode cX5_begin 9 = .ok (.getfield 7, 3) := by decide +kernel
theorem dX5_begin_12 : decode cX5_begin 12 = .ok (.iload_n 1, 1) := by decide +kernel
theorem dX5_begin_13 : decode cX5_begin 13 = .ok (.iload_n 1, 1) := by decide +kernel
theorem dX5_begin_14 : decode cX5_begin 14 = .ok (.bipush 6, 2) := by decide +kernel
theorem dX5_begin_16 : decode cX5_begin 16 = .ok (.if_icmp .ge 7, 3) := by decide +kernel
theorem dX5_begin_19 : decode cX5_begin 19 = .ok (.iconst 1, 1) := by decide +kernel
theorem dX5_begin_20 : decode cX5_begin 20 = .ok (.goto 14, 3) := by decide +kernel
theorem dX5_begin_23 : decode cX5_begin 23 = .ok (.iload_n 1, 1) := by decide +kernel
theorem dX5_begin_24 : decode cX5_begin 24 = .ok (.bipush 11, 2) := by decide +kernel
theorem dX5_begin_26 : decode cX5_begin 26 = .ok (.if_icmp .le 7, 3) := by decide +kernel
theorem dX5_begin_29 : decode cX5_begin 29 = .ok (.iconst 3, 1) := by decide +kernel
theorem dX5_begin_30 : decode cX5_begin 30 = .ok (.goto 4, 3) := by decide +kernel
theorem dX5_begin_33 : decode cX5_begin 33 = .ok (.iconst 0, 1) := by decide +kernel
theorem dX5_begin_34 : decode cX5_begin 34 = .ok (.iastore, 1) := by decide +kernel
theorem dX5_begin_35 : decode cX5_begin 35 = .ok (.iinc 1 1, 3) := by decide +kernel
theorem dX5_begin_38 : decode cX5_begin 38 = .ok (.goto (-36), 3) := by decide +kernel
theorem dX5_begin_41 : decode cX5_begin 41 = .ok (.aload_n 0, 1) := by decide +kernel
theorem dX5_begin_42 : decode cX5_begin 42 = .ok (.getfield 13, 3) := by decide +kernel
theorem dX5_begin_45 : decode cX5_begin 45 = .ok (.iconst 0, 1) := by decide +kernel
theorem dX5_begin_46 : decode cX5_begin 46 = .ok (.iconst 0, 1) := by decide +kernel
theorem dX5_begin_47 : decode cX5_begin 47 = .ok (.iastore, 1) := by decide +kernel
theorem dX5_begin_48 : decode cX5_begin 48 = .ok (.aload_n 0, 1) := by decide +kernel
theorem dX5_begin_49 : decode cX5_begin 49 = .ok (.iconst 0, 1) := by decide +kernel
theorem dX5_begin_50 : decode cX5_begin 50 = .ok (.putfield 156, 3) := by decide +kernel
theorem dX5_begin_53 : decode cX5_begin 53 = .ok (.aload_n 0, 1) := by decide +kernel
theorem dX5_begin_54 : decode cX5_begin 54 = .ok (.iconst 0, 1) := by decide +kernel
theorem dX5_begin_55 : decode cX5_begin 55 = .ok (.putfield 160, 3) := by decide +kernel
theorem dX5_begin_58 : decode cX5_begin 58 = .ok (.return_, 1) := by decide +kernel
theorem dX5_clear_0 : decode cX5_clear 0 = .ok (.iconst 0, 1) := by decide +kernel
theorem dX5_clear_1 : decode cX5_clear 1 = .ok (.istore_n 1, 1) := by decide +kernel
theorem dX5_clear_2 : decode cX5_clear 2 = .ok (.iload_n 1, 1) := by decide +kernel
theorem dX5_clear_3 : decode cX5_clear 3 = .ok (.bipush 18, 2) := by decide +kernel
theorem dX5_clear_5 : decode cX5_clear 5 = .ok (.if_icmp .ge 16, 3) := by decide +kernel
theorem dX5_clear_8 : decode cX5_clear 8 = .ok (.aload_n 0, 1) := by decide +kernel
theorem dX5_clear_9 : decode cX5_clear 9 = .ok (.getfield 7, 3) := by decide +kernel
theorem dX5_clear_12 : decode cX5_clear 12 = .ok (.iload_n 1, 1) := by decide +kernel
theorem dX5_clear_13 : decode cX5_clear 13 = .ok (.iconst 0, 1) := by decide +kernel
theorem dX5_clear_14 : decode cX5_clear 14 = .ok (.iastore, 1) := by decide +kernel
theorem dX5_clear_15 : decode cX5_clear 15 = .ok (.iinc 1 1, 3) := by decide +kernel
theorem dX5_clear_18 : decode cX5_clear 18 = .ok (.goto (-16), 3) := by decide +kernel
theorem dX5_clear_21 : decode cX5_clear 21 = .ok (.aload_n 0, 1) := by decide +kernel
theorem dX5_clear_22 : decode cX5_clear 22 = .ok (.getfield 13, 3) := by decide +kernel
theorem dX5_clear_25 : decode cX5_clear 25 = .ok (.iconst 0, 1) := by decide +kernel
theorem dX5_clear_26 : decode cX5_clear 26 = .ok (.iconst 0, 1) := by decide +kernel
theorem dX5_clear_27 : decode cX5_clear 27 = .ok (.iastore, 1) := by decide +kernel
theorem dX5_clear_28 : decode cX5_clear 28 = .ok (.aload_n 0, 1) := by decide +kernel
theorem dX5_clear_29 : decode cX5_clear 29 = .ok (.iconst 0, 1) := by decide +kernel
theorem dX5_clear_30 : decode cX5_clear 30 = .ok (.putfield 156, 3) := by decide +kernel
theorem dX5_clear_33 : decode cX5_clear 33 = .ok (.aload_n 0, 1) := by decide +kernel
theorem dX5_clear_34 : decode cX5_clear 34 = .ok (.iconst 0, 1) := by decide +kernel
theorem dX5_clear_35 : decode cX5_clear 35 = .ok (.putfield 160, 3) := by decide +kernel
theorem dX5_clear_38 : decode cX5_clear 38 = .ok (.return_, 1) := by decide +kernel
set_option maxRecDepth 20000 in
set_option maxRecDepth 100000 in
theorem ggX5_put_X5_rowOf : GoodIn wsX5_put wsX5_rowOf := goodIn_r _ [7] (by rfl) (by decide +kernel)
set_option maxRecDepth 20000 in
theorem gX5_put_X5_rowOf : GoodIn wsX5_put (va_wsS RX5 69 yX5_rowOf wsX5_rowOf) := goodIn_app (goodIn_of _ (by decide +kernel)) ggX5_put_X5_rowOf
theorem dX5_put_0 : decode cX5_put 0 = .ok (.iload_n 1, 1) := by decide +kernel
theorem dX5_put_1 : decode cX5_put 1 = .ok (.ifCond .lt 43, 3) := by decide +kernel
theorem dX5_put_4 : decode cX5_put 4 = .ok (.iload_n 1, 1) := by decide +kernel
theorem dX5_put_5 : decode cX5_put 5 = .ok (.bipush 17, 2) := by decide +kernel
theorem dX5_put_7 : decode cX5_put 7 = .ok (.if_icmp .gt 37, 3) := by decide +kernel
theorem dX5_put_10 : decode cX5_put 10 = .ok (.iload_n 2, 1) := by decide +kernel
theorem dX5_put_11 : decode cX5_put 11 = .ok (.ifCond .lt 33, 3) := by decide +kernel
theorem dX5_put_14 : decode cX5_put 14 = .ok (.iload_n 2, 1) := by decide +kernel
theorem dX5_put_15 : decode cX5_put 15 = .ok (.iconst 4, 1) := by decide +kernel
theorem dX5_put_16 : decode cX5_put 16 = .ok (.if_icmp .gt 28, 3) := by decide +kernel
theorem dX5_put_19 : decode cX5_put 19 = .ok (.iload_n 2, 1) := by decide +kernel
theorem dX5_put_20 : decode cX5_put 20 = .ok (.iconst 1, 1) := by decide +kernel
theorem dX5_put_21 : decode cX5_put 21 = .ok (.if_icmp .ne 11, 3) := by decide +kernel
theorem dX5_put_24 : decode cX5_put 24 = .ok (.iload_n 1, 1) := by decide +kernel
theorem dX5_put_25 : decode cX5_put 25 = .ok (.invokestatic 69, 3) := by decide +kernel
theorem dX5_put_28 : decode cX5_put 28 = .ok (.iconst 5, 1) := by decide +kernel
theorem dX5_put_29 : decode cX5_put 29 = .ok (.if_icmp .eq 15, 3) := by decide +kernel
theorem dX5_put_32 : decode cX5_put 32 = .ok (.iload_n 2, 1) := by decide +kernel
theorem dX5_put_33 : decode cX5_put 33 = .ok (.iconst 3, 1) := by decide +kernel
theorem dX5_put_34 : decode cX5_put 34 = .ok (.if_icmp .ne 12, 3) := by decide +kernel
theorem dX5_put_37 : decode cX5_put 37 = .ok (.iload_n 1, 1) := by decide +kernel
theorem dX5_put_38 : decode cX5_put 38 = .ok (.invokestatic 69, 3) := by decide +kernel
theorem dX5_put_41 : decode cX5_put 41 = .ok (.ifCond .ne 5, 3) := by decide +kernel
theorem dX5_put_44 : decode cX5_put 44 = .ok (.iconst 0, 1) := by decide +kernel
theorem dX5_put_45 : decode cX5_put 45 = .ok (.ireturn, 1) := by decide +kernel
theorem dX5_put_46 : decode cX5_put 46 = .ok (.aload_n 0, 1) := by decide +kernel
theorem dX5_put_47 : decode cX5_put 47 = .ok (.getfield 7, 3) := by decide +kernel
theorem dX5_put_50 : decode cX5_put 50 = .ok (.iload_n 1, 1) := by decide +kernel
theorem dX5_put_51 : decode cX5_put 51 = .ok (.iload_n 2, 1) := by decide +kernel
theorem dX5_put_52 : decode cX5_put 52 = .ok (.iastore, 1) := by decide +kernel
theorem dX5_put_53 : decode cX5_put 53 = .ok (.aload_n 0, 1) := by decide +kernel
theorem dX5_put_54 : decode cX5_put 54 = .ok (.iconst 0, 1) := by decide +kernel
theorem dX5_put_55 : decode cX5_put 55 = .ok (.putfield 156, 3) := by decide +kernel
theorem dX5_put_58 : decode cX5_put 58 = .ok (.aload_n 0, 1) := by decide +kernel
theorem dX5_put_59 : decode cX5_put 59 = .ok (.iconst 0, 1) := by decide +kernel
theorem dX5_put_60 : decode cX5_put 60 = .ok (.putfield 160, 3) := by decide +kernel
theorem dX5_put_63 : decode cX5_put 63 = .ok (.iconst 1, 1) := by decide +kernel
theorem dX5_put_64 : decode cX5_put 64 = .ok (.ireturn, 1) := by decide +kernel
theorem dX5_turn_0 : decode cX5_turn 0 = .ok (.iload_n 1, 1) := by decide +kernel
theorem dX5_turn_1 : decode cX5_turn 1 = .ok (.ifCond .eq 10, 3) := by decide +kernel
theorem dX5_turn_4 : decode cX5_turn 4 = .ok (.iload_n 1, 1) := by decide +kernel
theorem dX5_turn_5 : decode cX5_turn 5 = .ok (.iconst 1, 1) := by decide +kernel
theorem dX5_turn_6 : decode cX5_turn 6 = .ok (.if_icmp .eq 5, 3) := by decide +kernel
theorem dX5_turn_9 : decode cX5_turn 9 = .ok (.iconst 0, 1) := by decide +kernel
theorem dX5_turn_10 : decode cX5_turn 10 = .ok (.ireturn, 1) := by decide +kernel
theorem dX5_turn_11 : decode cX5_turn 11 = .ok (.aload_n 0, 1) := by decide +kernel
theorem dX5_turn_12 : decode cX5_turn 12 = .ok (.getfield 13, 3) := by decide +kernel
theorem dX5_turn_15 : decode cX5_turn 15 = .ok (.iconst 0, 1) := by decide +kernel
theorem dX5_turn_16 : decode cX5_turn 16 = .ok (.iload_n 1, 1) := by decide +kernel
theorem dX5_turn_17 : decode cX5_turn 17 = .ok (.iastore, 1) := by decide +kernel
theorem dX5_turn_18 : decode cX5_turn 18 = .ok (.aload_n 0, 1) := by decide +kernel
theorem dX5_turn_19 : decode cX5_turn 19 = .ok (.iconst 0, 1) := by decide +kernel
theorem dX5_turn_20 : decode cX5_turn 20 = .ok (.putfield 156, 3) := by decide +kernel
theorem dX5_turn_23 : decode cX5_turn 23 = .ok (.aload_n 0, 1) := by decide +kernel
theorem dX5_turn_24 : decode cX5_turn 24 = .ok (.iconst 0, 1) := by decide +kernel
theorem dX5_turn_25 : decode cX5_turn 25 = .ok (.putfield 160, 3) := by decide +kernel
theorem dX5_turn_28 : decode cX5_turn 28 = .ok (.iconst 1, 1) := by decide +kernel
theorem dX5_turn_29 : decode cX5_turn 29 = .ok (.ireturn, 1) := by decide +kernel
theorem dX5_at_0 : decode cX5_at 0 = .ok (.iload_n 1, 1) := by decide +kernel
theorem dX5_at_1 : decode cX5_at 1 = .ok (.ifCond .lt 9, 3) := by decide +kernel
theorem dX5_at_4 : decode cX5_at 4 = .ok (.iload_n 1, 1) := by decide +kernel
theorem dX5_at_5 : decode cX5_at 5 = .ok (.bipush 17, 2) := by decide +kernel
theorem dX5_at_7 : decode cX5_at 7 = .ok (.if_icmp .le 7, 3) := by decide +kernel
theorem dX5_at_10 : decode cX5_at 10 = .ok (.iconst (-1), 1) := by decide +kernel
theorem dX5_at_11 : decode cX5_at 11 = .ok (.goto 9, 3) := by decide +kernel
theorem dX5_at_14 : decode cX5_at 14 = .ok (.aload_n 0, 1) := by decide +kernel
theorem dX5_at_15 : decode cX5_at 15 = .ok (.getfield 7, 3) := by decide +kernel
theorem dX5_at_18 : decode cX5_at 18 = .ok (.iload_n 1, 1) := by decide +kernel
theorem dX5_at_19 : decode cX5_at 19 = .ok (.iaload, 1) := by decide +kernel
theorem dX5_at_20 : decode cX5_at 20 = .ok (.ireturn, 1) := by decide +kernel
theorem dX5_side_0 : decode cX5_side 0 = .ok (.aload_n 0, 1) := by decide +kernel
theorem dX5_side_1 : decode cX5_side 1 = .ok (.getfield 13, 3) := by decide +kernel
theorem dX5_side_4 : decode cX5_side 4 = .ok (.iconst 0, 1) := by decide +kernel
theorem dX5_side_5 : decode cX5_side 5 = .ok (.iaload, 1) := by decide +kernel
theorem dX5_side_6 : decode cX5_side 6 = .ok (.ireturn, 1) := by decide +kernel
set_option maxRecDepth 20000 in
set_option maxRecDepth 100000 in
theorem ggX5_moves_X5_generate : GoodIn wsX5_moves wsX5_generate := goodIn_r _ [6, 1, 7, 8, 9, 10, 5, 11, 12, 13, 14, 15, 16, 17, 18, 19, 20, 21, 22, 23, 24, 25, 26, 27, 28, 29, 30, 31, 32, 33, 34, 35, 36, 37, 38, 39, 40, 41, 42, 43, 44, 45, 46, 47, 48, 49, 50, 51, 52, 53, 54, 55, 56, 57, 58, 59, 60, 61, 62, 63, 64, 65, 66, 67] (by rfl) (by decide +kernel)
set_option maxRecDepth 20000 in
theorem gX5_moves_X5_generate : GoodIn wsX5_moves (wsV RX5 137 RX5 yX5_generate wsX5_generate) := goodIn_app (goodIn_of _ (by decide +kernel)) ggX5_moves_X5_generate
theorem dX5_moves_0 : decode cX5_moves 0 = .ok (.aload_n 0, 1) := by decide +kernel
theorem dX5_moves_1 : decode cX5_moves 1 = .ok (.iconst 0, 1) := by decide +kernel
theorem dX5_moves_2 : decode cX5_moves 2 = .ok (.invokevirtual 137, 3) := by decide +kernel
theorem dX5_moves_5 : decode cX5_moves 5 = .ok (.aload_n 0, 1) := by decide +kernel
theorem dX5_moves_6 : decode cX5_moves 6 = .ok (.getfield 19, 3) := by decide +kernel
theorem dX5_moves_9 : decode cX5_moves 9 = .ok (.iconst 0, 1) := by decide +kernel
theorem dX5_moves_10 : decode cX5_moves 10 = .ok (.iaload, 1) := by decide +kernel
theorem dX5_moves_11 : decode cX5_moves 11 = .ok (.ireturn, 1) := by decide +kernel
set_option maxRecDepth 20000 in
set_option maxRecDepth 100000 in
theorem ggX5_move_X5_moves : GoodIn wsX5_move wsX5_moves := goodIn_r _ [7, 8, 9, 10, 11, 6, 12, 13, 14, 15, 16, 17, 18, 19, 20, 21, 22, 23, 24, 25, 26, 27, 28, 29, 30, 31, 2, 1, 32, 33, 34, 35, 36, 37, 38, 39, 40, 41, 42, 43, 44, 45, 46, 47, 48, 49, 50, 51, 58, 59, 60, 61, 62, 63, 64, 65, 66, 67, 68, 69, 70, 71, 72, 73, 74, 75, 76, 77] (by rfl) (by decide +kernel)
set_option maxRecDepth 20000 in
theorem gX5_move_X5_moves : GoodIn wsX5_move (wsV RX5 163 RX5 yX5_moves wsX5_moves) := goodIn_app (goodIn_of _ (by decide +kernel)) ggX5_move_X5_moves
set_option maxRecDepth 20000 in
set_option maxRecDepth 100000 in
theorem ggX5_move_X5_beginning : GoodIn wsX5_move wsX5_beginning := goodIn_r _ [54, 2] (by rfl) (by decide +kernel)
set_option maxRecDepth 20000 in
theorem gX5_move_X5_beginning : GoodIn wsX5_move (va_wsS RX5 103 yX5_beginning wsX5_beginning) := goodIn_app (goodIn_of _ (by decide +kernel)) ggX5_move_X5_beginning
set_option maxRecDepth 20000 in
set_option maxRecDepth 100000 in
theorem ggX5_move_X5_end : GoodIn wsX5_move wsX5_end := goodIn_r _ [57, 2] (by rfl) (by decide +kernel)
set_option maxRecDepth 20000 in
theorem gX5_move_X5_end : GoodIn wsX5_move (va_wsS RX5 106 yX5_end wsX5_end) := goodIn_app (goodIn_of _ (by decide +kernel)) ggX5_move_X5_end
theorem dX5_move_0 : decode cX5_move 0 = .ok (.iload_n 1, 1) := by decide +kernel
theorem dX5_move_1 : decode cX5_move 1 = .ok (.ifCond .lt 20, 3) := by decide +kernel
theorem dX5_move_4 : decode cX5_move 4 = .ok (.iload_n 1, 1) := by decide +kernel
theorem dX5_move_5 : decode cX5_move 5 = .ok (.aload_n 0, 1) := by decide +kernel
theorem dX5_move_6 : decode cX5_move 6 = .ok (.invokevirtual 163, 3) := by decide +kernel
theorem dX5_move_9 : decode cX5_move 9 = .ok (.if_icmp .ge 12, 3) := by decide +kernel
theorem dX5_move_12 : decode cX5_move 12 = .ok (.iload_n 2, 1) := by decide +kernel
theorem dX5_move_13 : decode cX5_move 13 = .ok (.ifCond .lt 8, 3) := by decide +kernel
theorem dX5_move_16 : decode cX5_move 16 = .ok (.iload_n 2, 1) := by decide +kernel
theorem dX5_move_17 : decode cX5_move 17 = .ok (.iconst 2, 1) := by decide +kernel
theorem dX5_move_18 : decode cX5_move 18 = .ok (.if_icmp .le 5, 3) := by decide +kernel
theorem dX5_move_21 : decode cX5_move 21 = .ok (.iconst (-1), 1) := by decide +kernel
theorem dX5_move_22 : decode cX5_move 22 = .ok (.ireturn, 1) := by decide +kernel
theorem dX5_move_23 : decode cX5_move 23 = .ok (.aload_n 0, 1) := by decide +kernel
theorem dX5_move_24 : decode cX5_move 24 = .ok (.getfield 16, 3) := by decide +kernel
theorem dX5_move_27 : decode cX5_move 27 = .ok (.iload_n 1, 1) := by decide +kernel
theorem dX5_move_28 : decode cX5_move 28 = .ok (.iaload, 1) := by decide +kernel
theorem dX5_move_29 : decode cX5_move 29 = .ok (.istore_n 3, 1) := by decide +kernel
theorem dX5_move_30 : decode cX5_move 30 = .ok (.iload_n 2, 1) := by decide +kernel
theorem dX5_move_31 : decode cX5_move 31 = .ok (.ifCond .ne 10, 3) := by decide +kernel
theorem dX5_move_34 : decode cX5_move 34 = .ok (.iload_n 3, 1) := by decide +kernel
theorem dX5_move_35 : decode cX5_move 35 = .ok (.invokestatic 103, 3) := by decide +kernel
theorem dX5_move_38 : decode cX5_move 38 = .ok (.goto 19, 3) := by decide +kernel
theorem dX5_move_41 : decode cX5_move 41 = .ok (.iload_n 2, 1) := by decide +kernel
theorem dX5_move_42 : decode cX5_move 42 = .ok (.iconst 1, 1) := by decide +kernel
theorem dX5_move_43 : decode cX5_move 43 = .ok (.if_icmp .ne 10, 3) := by decide +kernel
theorem dX5_move_46 : decode cX5_move 46 = .ok (.iload_n 3, 1) := by decide +kernel
theorem dX5_move_47 : decode cX5_move 47 = .ok (.invokestatic 106, 3) := by decide +kernel
theorem dX5_move_50 : decode cX5_move 50 = .ok (.goto 7, 3) := by decide +kernel
theorem dX5_move_53 : decode cX5_move 53 = .ok (.iload_n 3, 1) := by decide +kernel
theorem dX5_move_54 : decode cX5_move 54 = .ok (.ldc 77, 2) := by decide +kernel
theorem dX5_move_56 : decode cX5_move 56 = .ok (.irem, 1) := by decide +kernel
theorem dX5_move_57 : decode cX5_move 57 = .ok (.ireturn, 1) := by decide +kernel
set_option maxRecDepth 20000 in
set_option maxRecDepth 100000 in
theorem ggX5_over_X5_moves : GoodIn wsX5_over wsX5_moves := goodIn_r _ [7, 8, 9, 10, 11, 6, 12, 13, 1, 14, 15, 16, 17, 18, 19, 20, 21, 22, 23, 24, 25, 26, 27, 28, 29, 30, 31, 32, 33, 34, 35, 36, 37, 38, 39, 40, 41, 42, 43, 44, 45, 46, 47, 48, 49, 50, 51, 52, 53, 54, 55, 56, 57, 58, 59, 60, 61, 62, 63, 64, 65, 66, 67, 68, 69, 70, 71, 72] (by rfl) (by decide +kernel)
set_option maxRecDepth 20000 in
theorem gX5_over_X5_moves : GoodIn wsX5_over (wsV RX5 163 RX5 yX5_moves wsX5_moves) := goodIn_app (goodIn_of _ (by decide +kernel)) ggX5_over_X5_moves
theorem dX5_over_0 : decode cX5_over 0 = .ok (.aload_n 0, 1) := by decide +kernel
theorem dX5_over_1 : decode cX5_over 1 = .ok (.invokevirtual 163, 3) := by decide +kernel
theorem dX5_over_4 : decode cX5_over 4 = .ok (.ifCond .ne 18, 3) := by decide +kernel
theorem dX5_over_7 : decode cX5_over 7 = .ok (.aload_n 0, 1) := by decide +kernel
theorem dX5_over_8 : decode cX5_over 8 = .ok (.getfield 13, 3) := by decide +kernel
theorem dX5_over_11 : decode cX5_over 11 = .ok (.iconst 0, 1) := by decide +kernel
theorem dX5_over_12 : decode cX5_over 12 = .ok (.iaload, 1) := by decide +kernel
theorem dX5_over_13 : decode cX5_over 13 = .ok (.ifCond .ne 7, 3) := by decide +kernel
theorem dX5_over_16 : decode cX5_over 16 = .ok (.iconst 2, 1) := by decide +kernel
theorem dX5_over_17 : decode cX5_over 17 = .ok (.goto 4, 3) := by decide +kernel
theorem dX5_over_20 : decode cX5_over 20 = .ok (.iconst 1, 1) := by decide +kernel
theorem dX5_over_21 : decode cX5_over 21 = .ok (.ireturn, 1) := by decide +kernel
theorem dX5_over_22 : decode cX5_over 22 = .ok (.aload_n 0, 1) := by decide +kernel
theorem dX5_over_23 : decode cX5_over 23 = .ok (.getfield 160, 3) := by decide +kernel
theorem dX5_over_26 : decode cX5_over 26 = .ok (.bipush 20, 2) := by decide +kernel
theorem dX5_over_28 : decode cX5_over 28 = .ok (.if_icmp .lt 7, 3) := by decide +kernel
theorem dX5_over_31 : decode cX5_over 31 = .ok (.iconst 3, 1) := by decide +kernel
theorem dX5_over_32 : decode cX5_over 32 = .ok (.goto 4, 3) := by decide +kernel
theorem dX5_over_35 : decode cX5_over 35 = .ok (.iconst 0, 1) := by decide +kernel
theorem dX5_over_36 : decode cX5_over 36 = .ok (.ireturn, 1) := by decide +kernel
set_option maxRecDepth 20000 in
set_option maxRecDepth 100000 in
theorem ggX5_play_X5_over : GoodIn wsX5_play wsX5_over := goodIn_r _ [14, 9, 8, 15, 16, 17, 13, 18, 1, 19, 20, 21, 22, 5, 23, 24, 25, 26, 27, 28, 29, 30, 31, 32, 33, 34, 35, 36, 37, 38, 39, 4, 3, 40, 41, 42, 43, 44, 45, 46, 47, 48, 49, 50, 51, 52, 53, 54, 55, 56, 57, 58, 59, 70, 71, 72, 73, 74, 75, 76, 77, 78, 79, 80, 81, 82, 83, 84, 85, 86, 87, 88, 89] (by rfl) (by decide +kernel)
set_option maxRecDepth 20000 in
theorem gX5_play_X5_over : GoodIn wsX5_play (wsV RX5 167 RX5 yX5_over wsX5_over) := goodIn_app (goodIn_of _ (by decide +kernel)) ggX5_play_X5_over
set_option maxRecDepth 20000 in
set_option maxRecDepth 100000 in
theorem ggX5_play_X5_beginning : GoodIn wsX5_play wsX5_beginning := goodIn_r _ [62, 4] (by rfl) (by decide +kernel)
set_option maxRecDepth 20000 in
theorem gX5_play_X5_beginning : GoodIn wsX5_play (va_wsS RX5 103 yX5_beginning wsX5_beginning) := goodIn_app (goodIn_of _ (by decide +kernel)) ggX5_play_X5_beginning
set_option maxRecDepth 20000 in
set_option maxRecDepth 100000 in
theorem ggX5_play_X5_isKing : GoodIn wsX5_play wsX5_isKing := goodIn_r _ [45] (by rfl) (by decide +kernel)
set_option maxRecDepth 20000 in
theorem gX5_play_X5_isKing : GoodIn wsX5_play (va_wsS RX5 73 yX5_isKing wsX5_isKing) := goodIn_app (goodIn_of _ (by decide +kernel)) ggX5_play_X5_isKing
set_option maxRecDepth 20000 in
set_option maxRecDepth 100000 in
theorem ggX5_play_X5_make : GoodIn wsX5_play wsX5_make := goodIn_r _ [66, 3, 4, 5, 9, 60, 61, 13, 62, 67, 68, 69, 50, 51, 52, 53, 54, 55, 70, 71, 72, 73, 74, 75, 76, 77, 78, 79, 80, 81, 82, 83, 84, 85, 86, 87, 88, 89] (by rfl) (by decide +kernel)
set_option maxRecDepth 20000 in
theorem gX5_play_X5_make : GoodIn wsX5_play (wsV RX5 147 RX5 yX5_make wsX5_make) := goodIn_app (goodIn_of _ (by decide +kernel)) ggX5_play_X5_make
theorem dX5_play_0 : decode cX5_play 0 = .ok (.aload_n 0, 1) := by decide +kernel
theorem dX5_play_1 : decode cX5_play 1 = .ok (.invokevirtual 167, 3) := by decide +kernel
theorem dX5_play_4 : decode cX5_play 4 = .ok (.ifCond .ne 26, 3) := by decide +kernel
theorem dX5_play_7 : decode cX5_play 7 = .ok (.iload_n 1, 1) := by decide +kernel
theorem dX5_play_8 : decode cX5_play 8 = .ok (.ifCond .lt 22, 3) := by decide +kernel
theorem dX5_play_11 : decode cX5_play 11 = .ok (.iload_n 1, 1) := by decide +kernel
theorem dX5_play_12 : decode cX5_play 12 = .ok (.aload_n 0, 1) := by decide +kernel
theorem dX5_play_13 : decode cX5_play 13 = .ok (.getfield 19, 3) := by decide +kernel
theorem dX5_play_16 : decode cX5_play 16 = .ok (.iconst 0, 1) := by decide +kernel
theorem dX5_play_17 : decode cX5_play 17 = .ok (.iaload, 1) := by decide +kernel
theorem dX5_play_18 : decode cX5_play 18 = .ok (.if_icmp .ge 12, 3) := by decide +kernel
theorem dX5_play_21 : decode cX5_play 21 = .ok (.aload_n 0, 1) := by decide +kernel
theorem dX5_play_22 : decode cX5_play 22 = .ok (.getfield 156, 3) := by decide +kernel
theorem dX5_play_25 : decode cX5_play 25 = .ok (.bipush 100, 2) := by decide +kernel
theorem dX5_play_27 : decode cX5_play 27 = .ok (.if_icmp .ne 5, 3) := by decide +kernel
theorem dX5_play_30 : decode cX5_play 30 = .ok (.iconst (-1), 1) := by decide +kernel
theorem dX5_play_31 : decode cX5_play 31 = .ok (.ireturn, 1) := by decide +kernel
theorem dX5_play_32 : decode cX5_play 32 = .ok (.aload_n 0, 1) := by decide +kernel
theorem dX5_play_33 : decode cX5_play 33 = .ok (.getfield 16, 3) := by decide +kernel
theorem dX5_play_36 : decode cX5_play 36 = .ok (.iload_n 1, 1) := by decide +kernel
theorem dX5_play_37 : decode cX5_play 37 = .ok (.iaload, 1) := by decide +kernel
theorem dX5_play_38 : decode cX5_play 38 = .ok (.istore_n 2, 1) := by decide +kernel
theorem dX5_play_39 : decode cX5_play 39 = .ok (.iload_n 2, 1) := by decide +kernel
theorem dX5_play_40 : decode cX5_play 40 = .ok (.ldc 77, 2) := by decide +kernel
theorem dX5_play_42 : decode cX5_play 42 = .ok (.irem, 1) := by decide +kernel
theorem dX5_play_43 : decode cX5_play 43 = .ok (.ifCond .ne 22, 3) := by decide +kernel
theorem dX5_play_46 : decode cX5_play 46 = .ok (.aload_n 0, 1) := by decide +kernel
theorem dX5_play_47 : decode cX5_play 47 = .ok (.getfield 7, 3) := by decide +kernel
theorem dX5_play_50 : decode cX5_play 50 = .ok (.iload_n 2, 1) := by decide +kernel
theorem dX5_play_51 : decode cX5_play 51 = .ok (.invokestatic 103, 3) := by decide +kernel
theorem dX5_play_54 : decode cX5_play 54 = .ok (.iaload, 1) := by decide +kernel
theorem dX5_play_55 : decode cX5_play 55 = .ok (.invokestatic 73, 3) := by decide +kernel
theorem dX5_play_58 : decode cX5_play 58 = .ok (.ifCond .eq 7, 3) := by decide +kernel
theorem dX5_play_61 : decode cX5_play 61 = .ok (.iconst 1, 1) := by decide +kernel
theorem dX5_play_62 : decode cX5_play 62 = .ok (.goto 4, 3) := by decide +kernel
theorem dX5_play_65 : decode cX5_play 65 = .ok (.iconst 0, 1) := by decide +kernel
theorem dX5_play_66 : decode cX5_play 66 = .ok (.istore_n 3, 1) := by decide +kernel
theorem dX5_play_67 : decode cX5_play 67 = .ok (.iconst 0, 1) := by decide +kernel
theorem dX5_play_68 : decode cX5_play 68 = .ok (.istore 4, 2) := by decide +kernel
theorem dX5_play_70 : decode cX5_play 70 = .ok (.iload 4, 2) := by decide +kernel
theorem dX5_play_72 : decode cX5_play 72 = .ok (.bipush 18, 2) := by decide +kernel
theorem dX5_play_74 : decode cX5_play 74 = .ok (.if_icmp .ge 31, 3) := by decide +kernel
theorem dX5_play_77 : decode cX5_play 77 = .ok (.aload_n 0, 1) := by decide +kernel
theorem dX5_play_78 : decode cX5_play 78 = .ok (.getfield 50, 3) := by decide +kernel
theorem dX5_play_81 : decode cX5_play 81 = .ok (.bipush 18, 2) := by decide +kernel
theorem dX5_play_83 : decode cX5_play 83 = .ok (.aload_n 0, 1) := by decide +kernel
theorem dX5_play_84 : decode cX5_play 84 = .ok (.getfield 156, 3) := by decide +kernel
theorem dX5_play_87 : decode cX5_play 87 = .ok (.imul, 1) := by decide +kernel
theorem dX5_play_88 : decode cX5_play 88 = .ok (.iload 4, 2) := by decide +kernel
theorem dX5_play_90 : decode cX5_play 90 = .ok (.iadd, 1) := by decide +kernel
theorem dX5_play_91 : decode cX5_play 91 = .ok (.aload_n 0, 1) := by decide +kernel
theorem dX5_play_92 : decode cX5_play 92 = .ok (.getfield 7, 3) := by decide +kernel
theorem dX5_play_95 : decode cX5_play 95 = .ok (.iload 4, 2) := by decide +kernel
theorem dX5_play_97 : decode cX5_play 97 = .ok (.iaload, 1) := by decide +kernel
theorem dX5_play_98 : decode cX5_play 98 = .ok (.iastore, 1) := by decide +kernel
theorem dX5_play_99 : decode cX5_play 99 = .ok (.iinc 4 1, 3) := by decide +kernel
theorem dX5_play_102 : decode cX5_play 102 = .ok (.goto (-32), 3) := by decide +kernel
theorem dX5_play_105 : decode cX5_play 105 = .ok (.aload_n 0, 1) := by decide +kernel
theorem dX5_play_106 : decode cX5_play 106 = .ok (.getfield 53, 3) := by decide +kernel
theorem dX5_play_109 : decode cX5_play 109 = .ok (.aload_n 0, 1) := by decide +kernel
theorem dX5_play_110 : decode cX5_play 110 = .ok (.getfield 156, 3) := by decide +kernel
theorem dX5_play_113 : decode cX5_play 113 = .ok (.aload_n 0, 1) := by decide +kernel
theorem dX5_play_114 : decode cX5_play 114 = .ok (.getfield 160, 3) := by decide +kernel
theorem dX5_play_117 : decode cX5_play 117 = .ok (.iastore, 1) := by decide +kernel
theorem dX5_play_118 : decode cX5_play 118 = .ok (.aload_n 0, 1) := by decide +kernel
theorem dX5_play_119 : decode cX5_play 119 = .ok (.dup, 1) := by decide +kernel
theorem dX5_play_120 : decode cX5_play 120 = .ok (.getfield 156, 3) := by decide +kernel
theorem dX5_play_123 : decode cX5_play 123 = .ok (.iconst 1, 1) := by decide +kernel
theorem dX5_play_124 : decode cX5_play 124 = .ok (.iadd, 1) := by decide +kernel
theorem dX5_play_125 : decode cX5_play 125 = .ok (.putfield 156, 3) := by decide +kernel
theorem dX5_play_128 : decode cX5_play 128 = .ok (.aload_n 0, 1) := by decide +kernel
theorem dX5_play_129 : decode cX5_play 129 = .ok (.iload_n 3, 1) := by decide +kernel
theorem dX5_play_130 : decode cX5_play 130 = .ok (.ifCond .eq 12, 3) := by decide +kernel
theorem dX5_play_133 : decode cX5_play 133 = .ok (.aload_n 0, 1) := by decide +kernel
theorem dX5_play_134 : decode cX5_play 134 = .ok (.getfield 160, 3) := by decide +kernel
theorem dX5_play_137 : decode cX5_play 137 = .ok (.iconst 1, 1) := by decide +kernel
theorem dX5_play_138 : decode cX5_play 138 = .ok (.iadd, 1) := by decide +kernel
theorem dX5_play_139 : decode cX5_play 139 = .ok (.goto 4, 3) := by decide +kernel
theorem dX5_play_142 : decode cX5_play 142 = .ok (.iconst 0, 1) := by decide +kernel
theorem dX5_play_143 : decode cX5_play 143 = .ok (.putfield 160, 3) := by decide +kernel
theorem dX5_play_146 : decode cX5_play 146 = .ok (.aload_n 0, 1) := by decide +kernel
theorem dX5_play_147 : decode cX5_play 147 = .ok (.iconst 0, 1) := by decide +kernel
theorem dX5_play_148 : decode cX5_play 148 = .ok (.iload_n 1, 1) := by decide +kernel
theorem dX5_play_149 : decode cX5_play 149 = .ok (.invokevirtual 147, 3) := by decide +kernel
theorem dX5_play_152 : decode cX5_play 152 = .ok (.iconst 0, 1) := by decide +kernel
theorem dX5_play_153 : decode cX5_play 153 = .ok (.istore 4, 2) := by decide +kernel
theorem dX5_play_155 : decode cX5_play 155 = .ok (.iconst 0, 1) := by decide +kernel
theorem dX5_play_156 : decode cX5_play 156 = .ok (.istore 5, 2) := by decide +kernel
theorem dX5_play_158 : decode cX5_play 158 = .ok (.iload 5, 2) := by decide +kernel
theorem dX5_play_160 : decode cX5_play 160 = .ok (.bipush 18, 2) := by decide +kernel
theorem dX5_play_162 : decode cX5_play 162 = .ok (.if_icmp .ge 50, 3) := by decide +kernel
theorem dX5_play_165 : decode cX5_play 165 = .ok (.aload_n 0, 1) := by decide +kernel
theorem dX5_play_166 : decode cX5_play 166 = .ok (.getfield 7, 3) := by decide +kernel
theorem dX5_play_169 : decode cX5_play 169 = .ok (.iload 5, 2) := by decide +kernel
theorem dX5_play_171 : decode cX5_play 171 = .ok (.aload_n 0, 1) := by decide +kernel
theorem dX5_play_172 : decode cX5_play 172 = .ok (.getfield 7, 3) := by decide +kernel
theorem dX5_play_175 : decode cX5_play 175 = .ok (.bipush 18, 2) := by decide +kernel
theorem dX5_play_177 : decode cX5_play 177 = .ok (.iload 5, 2) := by decide +kernel
theorem dX5_play_179 : decode cX5_play 179 = .ok (.iadd, 1) := by decide +kernel
theorem dX5_play_180 : decode cX5_play 180 = .ok (.iaload, 1) := by decide +kernel
theorem dX5_play_181 : decode cX5_play 181 = .ok (.iastore, 1) := by decide +kernel
theorem dX5_play_182 : decode cX5_play 182 = .ok (.iload_n 2, 1) := by decide +kernel
theorem dX5_play_183 : decode cX5_play 183 = .ok (.ldc 77, 2) := by decide +kernel
theorem dX5_play_185 : decode cX5_play 185 = .ok (.irem, 1) := by decide +kernel
theorem dX5_play_186 : decode cX5_play 186 = .ok (.iload 5, 2) := by decide +kernel
theorem dX5_play_188 : decode cX5_play 188 = .ok (.ishr, 1) := by decide +kernel
theorem dX5_play_189 : decode cX5_play 189 = .ok (.iconst 1, 1) := by decide +kernel
theorem dX5_play_190 : decode cX5_play 190 = .ok (.iand, 1) := by decide +kernel
theorem dX5_play_191 : decode cX5_play 191 = .ok (.iconst 1, 1) := by decide +kernel
theorem dX5_play_192 : decode cX5_play 192 = .ok (.if_icmp .ne 10, 3) := by decide +kernel
theorem dX5_play_195 : decode cX5_play 195 = .ok (.iload 4, 2) := by decide +kernel
theorem dX5_play_197 : decode cX5_play 197 = .ok (.iconst 1, 1) := by decide +kernel
theorem dX5_play_198 : decode cX5_play 198 = .ok (.iadd, 1) := by decide +kernel
theorem dX5_play_199 : decode cX5_play 199 = .ok (.goto 5, 3) := by decide +kernel
theorem dX5_play_202 : decode cX5_play 202 = .ok (.iload 4, 2) := by decide +kernel
theorem dX5_play_204 : decode cX5_play 204 = .ok (.istore 4, 2) := by decide +kernel
theorem dX5_play_206 : decode cX5_play 206 = .ok (.iinc 5 1, 3) := by decide +kernel
theorem dX5_play_209 : decode cX5_play 209 = .ok (.goto (-51), 3) := by decide +kernel
theorem dX5_play_212 : decode cX5_play 212 = .ok (.aload_n 0, 1) := by decide +kernel
theorem dX5_play_213 : decode cX5_play 213 = .ok (.getfield 13, 3) := by decide +kernel
theorem dX5_play_216 : decode cX5_play 216 = .ok (.iconst 0, 1) := by decide +kernel
theorem dX5_play_217 : decode cX5_play 217 = .ok (.aload_n 0, 1) := by decide +kernel
theorem dX5_play_218 : decode cX5_play 218 = .ok (.getfield 13, 3) := by decide +kernel
theorem dX5_play_221 : decode cX5_play 221 = .ok (.iconst 1, 1) := by decide +kernel
theorem dX5_play_222 : decode cX5_play 222 = .ok (.iaload, 1) := by decide +kernel
theorem dX5_play_223 : decode cX5_play 223 = .ok (.iastore, 1) := by decide +kernel
theorem dX5_play_224 : decode cX5_play 224 = .ok (.iload 4, 2) := by decide +kernel
theorem dX5_play_226 : decode cX5_play 226 = .ok (.ireturn, 1) := by decide +kernel
theorem dX5_undo_0 : decode cX5_undo 0 = .ok (.aload_n 0, 1) := by decide +kernel
theorem dX5_undo_1 : decode cX5_undo 1 = .ok (.getfield 156, 3) := by decide +kernel
theorem dX5_undo_4 : decode cX5_undo 4 = .ok (.ifCond .ne 5, 3) := by decide +kernel
theorem dX5_undo_7 : decode cX5_undo 7 = .ok (.iconst 0, 1) := by decide +kernel
theorem dX5_undo_8 : decode cX5_undo 8 = .ok (.ireturn, 1) := by decide +kernel
theorem dX5_undo_9 : decode cX5_undo 9 = .ok (.aload_n 0, 1) := by decide +kernel
theorem dX5_undo_10 : decode cX5_undo 10 = .ok (.dup, 1) := by decide +kernel
theorem dX5_undo_11 : decode cX5_undo 11 = .ok (.getfield 156, 3) := by decide +kernel
theorem dX5_undo_14 : decode cX5_undo 14 = .ok (.iconst 1, 1) := by decide +kernel
theorem dX5_undo_15 : decode cX5_undo 15 = .ok (.isub, 1) := by decide +kernel
theorem dX5_undo_16 : decode cX5_undo 16 = .ok (.putfield 156, 3) := by decide +kernel
theorem dX5_undo_19 : decode cX5_undo 19 = .ok (.iconst 0, 1) := by decide +kernel
theorem dX5_undo_20 : decode cX5_undo 20 = .ok (.istore_n 1, 1) := by decide +kernel
theorem dX5_undo_21 : decode cX5_undo 21 = .ok (.iload_n 1, 1) := by decide +kernel
theorem dX5_undo_22 : decode cX5_undo 22 = .ok (.bipush 18, 2) := by decide +kernel
theorem dX5_undo_24 : decode cX5_undo 24 = .ok (.if_icmp .ge 29, 3) := by decide +kernel
theorem dX5_undo_27 : decode cX5_undo 27 = .ok (.aload_n 0, 1) := by decide +kernel
theorem dX5_undo_28 : decode cX5_undo 28 = .ok (.getfield 7, 3) := by decide +kernel
theorem dX5_undo_31 : decode cX5_undo 31 = .ok (.iload_n 1, 1) := by decide +kernel
theorem dX5_undo_32 : decode cX5_undo 32 = .ok (.aload_n 0, 1) := by decide +kernel
theorem dX5_undo_33 : decode cX5_undo 33 = .ok (.getfield 50, 3) := by decide +kernel
theorem dX5_undo_36 : decode cX5_undo 36 = .ok (.bipush 18, 2) := by decide +kernel
theorem dX5_undo_38 : decode cX5_undo 38 = .ok (.aload_n 0, 1) := by decide +kernel
theorem dX5_undo_39 : decode cX5_undo 39 = .ok (.getfield 156, 3) := by decide +kernel
theorem dX5_undo_42 : decode cX5_undo 42 = .ok (.imul, 1) := by decide +kernel
theorem dX5_undo_43 : decode cX5_undo 43 = .ok (.iload_n 1, 1) := by decide +kernel
theorem dX5_undo_44 : decode cX5_undo 44 = .ok (.iadd, 1) := by decide +kernel
theorem dX5_undo_45 : decode cX5_undo 45 = .ok (.iaload, 1) := by decide +kernel
theorem dX5_undo_46 : decode cX5_undo 46 = .ok (.iastore, 1) := by decide +kernel
theorem dX5_undo_47 : decode cX5_undo 47 = .ok (.iinc 1 1, 3) := by decide +kernel
theorem dX5_undo_50 : decode cX5_undo 50 = .ok (.goto (-29), 3) := by decide +kernel
theorem dX5_undo_53 : decode cX5_undo 53 = .ok (.aload_n 0, 1) := by decide +kernel
theorem dX5_undo_54 : decode cX5_undo 54 = .ok (.aload_n 0, 1) := by decide +kernel
theorem dX5_undo_55 : decode cX5_undo 55 = .ok (.getfield 53, 3) := by decide +kernel
theorem dX5_undo_58 : decode cX5_undo 58 = .ok (.aload_n 0, 1) := by decide +kernel
theorem dX5_undo_59 : decode cX5_undo 59 = .ok (.getfield 156, 3) := by decide +kernel
theorem dX5_undo_62 : decode cX5_undo 62 = .ok (.iaload, 1) := by decide +kernel
theorem dX5_undo_63 : decode cX5_undo 63 = .ok (.putfield 160, 3) := by decide +kernel
theorem dX5_undo_66 : decode cX5_undo 66 = .ok (.aload_n 0, 1) := by decide +kernel
theorem dX5_undo_67 : decode cX5_undo 67 = .ok (.getfield 13, 3) := by decide +kernel
theorem dX5_undo_70 : decode cX5_undo 70 = .ok (.iconst 0, 1) := by decide +kernel
theorem dX5_undo_71 : decode cX5_undo 71 = .ok (.iconst 1, 1) := by decide +kernel
theorem dX5_undo_72 : decode cX5_undo 72 = .ok (.aload_n 0, 1) := by decide +kernel
theorem dX5_undo_73 : decode cX5_undo 73 = .ok (.getfield 13, 3) := by decide +kernel
theorem dX5_undo_76 : decode cX5_undo 76 = .ok (.iconst 0, 1) := by decide +kernel
theorem dX5_undo_77 : decode cX5_undo 77 = .ok (.iaload, 1) := by decide +kernel
theorem dX5_undo_78 : decode cX5_undo 78 = .ok (.isub, 1) := by decide +kernel
theorem dX5_undo_79 : decode cX5_undo 79 = .ok (.iastore, 1) := by decide +kernel
theorem dX5_undo_80 : decode cX5_undo 80 = .ok (.iconst 1, 1) := by decide +kernel
theorem dX5_undo_81 : decode cX5_undo 81 = .ok (.ireturn, 1) := by decide +kernel
theorem dX5_played_0 : decode cX5_played 0 = .ok (.aload_n 0, 1) := by decide +kernel
theorem dX5_played_1 : decode cX5_played 1 = .ok (.getfield 156, 3) := by decide +kernel
theorem dX5_played_4 : decode cX5_played 4 = .ok (.ireturn, 1) := by decide +kernel
theorem dX5_quiet_0 : decode cX5_quiet 0 = .ok (.aload_n 0, 1) := by decide +kernel
theorem dX5_quiet_1 : decode cX5_quiet 1 = .ok (.getfield 160, 3) := by decide +kernel
theorem dX5_quiet_4 : decode cX5_quiet 4 = .ok (.ireturn, 1) := by decide +kernel
theorem dJ6_numberOfTrailingZeros_0f7a4_0 : decode cJ6_numberOfTrailingZeros_0f7a4 0 = .ok (.iload_n 0, 1) := by decide +kernel
theorem dJ6_numberOfTrailingZeros_0f7a4_1 : decode cJ6_numberOfTrailingZeros_0f7a4 1 = .ok (.iconst (-1), 1) := by decide +kernel
theorem dJ6_numberOfTrailingZeros_0f7a4_2 : decode cJ6_numberOfTrailingZeros_0f7a4 2 = .ok (.ixor, 1) := by decide +kernel
theorem dJ6_numberOfTrailingZeros_0f7a4_3 : decode cJ6_numberOfTrailingZeros_0f7a4 3 = .ok (.iload_n 0, 1) := by decide +kernel
theorem dJ6_numberOfTrailingZeros_0f7a4_4 : decode cJ6_numberOfTrailingZeros_0f7a4 4 = .ok (.iconst 1, 1) := by decide +kernel
theorem dJ6_numberOfTrailingZeros_0f7a4_5 : decode cJ6_numberOfTrailingZeros_0f7a4 5 = .ok (.isub, 1) := by decide +kernel
theorem dJ6_numberOfTrailingZeros_0f7a4_6 : decode cJ6_numberOfTrailingZeros_0f7a4 6 = .ok (.iand, 1) := by decide +kernel
theorem dJ6_numberOfTrailingZeros_0f7a4_7 : decode cJ6_numberOfTrailingZeros_0f7a4 7 = .ok (.istore_n 0, 1) := by decide +kernel
theorem dJ6_numberOfTrailingZeros_0f7a4_8 : decode cJ6_numberOfTrailingZeros_0f7a4 8 = .ok (.iload_n 0, 1) := by decide +kernel
theorem dJ6_numberOfTrailingZeros_0f7a4_9 : decode cJ6_numberOfTrailingZeros_0f7a4 9 = .ok (.ifCond .gt 8, 3) := by decide +kernel
theorem dJ6_numberOfTrailingZeros_0f7a4_12 : decode cJ6_numberOfTrailingZeros_0f7a4 12 = .ok (.iload_n 0, 1) := by decide +kernel
theorem dJ6_numberOfTrailingZeros_0f7a4_13 : decode cJ6_numberOfTrailingZeros_0f7a4 13 = .ok (.bipush 32, 2) := by decide +kernel
theorem dJ6_numberOfTrailingZeros_0f7a4_15 : decode cJ6_numberOfTrailingZeros_0f7a4 15 = .ok (.iand, 1) := by decide +kernel
theorem dJ6_numberOfTrailingZeros_0f7a4_16 : decode cJ6_numberOfTrailingZeros_0f7a4 16 = .ok (.ireturn, 1) := by decide +kernel
theorem dJ6_numberOfTrailingZeros_0f7a4_17 : decode cJ6_numberOfTrailingZeros_0f7a4 17 = .ok (.iconst 1, 1) := by decide +kernel
theorem dJ6_numberOfTrailingZeros_0f7a4_18 : decode cJ6_numberOfTrailingZeros_0f7a4 18 = .ok (.istore_n 1, 1) := by decide +kernel
theorem dJ6_numberOfTrailingZeros_0f7a4_19 : decode cJ6_numberOfTrailingZeros_0f7a4 19 = .ok (.iload_n 0, 1) := by decide +kernel
theorem dJ6_numberOfTrailingZeros_0f7a4_20 : decode cJ6_numberOfTrailingZeros_0f7a4 20 = .ok (.ldc_w 264, 3) := by decide +kernel
theorem dJ6_numberOfTrailingZeros_0f7a4_23 : decode cJ6_numberOfTrailingZeros_0f7a4 23 = .ok (.if_icmp .le 11, 3) := by decide +kernel
theorem dJ6_numberOfTrailingZeros_0f7a4_26 : decode cJ6_numberOfTrailingZeros_0f7a4 26 = .ok (.iinc 1 16, 3) := by decide +kernel
theorem dJ6_numberOfTrailingZeros_0f7a4_29 : decode cJ6_numberOfTrailingZeros_0f7a4 29 = .ok (.iload_n 0, 1) := by decide +kernel
theorem dJ6_numberOfTrailingZeros_0f7a4_30 : decode cJ6_numberOfTrailingZeros_0f7a4 30 = .ok (.bipush 16, 2) := by decide +kernel
theorem dJ6_numberOfTrailingZeros_0f7a4_32 : decode cJ6_numberOfTrailingZeros_0f7a4 32 = .ok (.iushr, 1) := by decide +kernel
theorem dJ6_numberOfTrailingZeros_0f7a4_33 : decode cJ6_numberOfTrailingZeros_0f7a4 33 = .ok (.istore_n 0, 1) := by decide +kernel
theorem dJ6_numberOfTrailingZeros_0f7a4_34 : decode cJ6_numberOfTrailingZeros_0f7a4 34 = .ok (.iload_n 0, 1) := by decide +kernel
theorem dJ6_numberOfTrailingZeros_0f7a4_35 : decode cJ6_numberOfTrailingZeros_0f7a4 35 = .ok (.sipush 256, 3) := by decide +kernel
theorem dJ6_numberOfTrailingZeros_0f7a4_38 : decode cJ6_numberOfTrailingZeros_0f7a4 38 = .ok (.if_icmp .le 11, 3) := by decide +kernel
theorem dJ6_numberOfTrailingZeros_0f7a4_41 : decode cJ6_numberOfTrailingZeros_0f7a4 41 = .ok (.iinc 1 8, 3) := by decide +kernel
theorem dJ6_numberOfTrailingZeros_0f7a4_44 : decode cJ6_numberOfTrailingZeros_0f7a4 44 = .ok (.iload_n 0, 1) := by decide +kernel
theorem dJ6_numberOfTrailingZeros_0f7a4_45 : decode cJ6_numberOfTrailingZeros_0f7a4 45 = .ok (.bipush 8, 2) := by decide +kernel
theorem dJ6_numberOfTrailingZeros_0f7a4_47 : decode cJ6_numberOfTrailingZeros_0f7a4 47 = .ok (.iushr, 1) := by decide +kernel
theorem dJ6_numberOfTrailingZeros_0f7a4_48 : decode cJ6_numberOfTrailingZeros_0f7a4 48 = .ok (.istore_n 0, 1) := by decide +kernel
theorem dJ6_numberOfTrailingZeros_0f7a4_49 : decode cJ6_numberOfTrailingZeros_0f7a4 49 = .ok (.iload_n 0, 1) := by decide +kernel
theorem dJ6_numberOfTrailingZeros_0f7a4_50 : decode cJ6_numberOfTrailingZeros_0f7a4 50 = .ok (.bipush 16, 2) := by decide +kernel
theorem dJ6_numberOfTrailingZeros_0f7a4_52 : decode cJ6_numberOfTrailingZeros_0f7a4 52 = .ok (.if_icmp .le 10, 3) := by decide +kernel
theorem dJ6_numberOfTrailingZeros_0f7a4_55 : decode cJ6_numberOfTrailingZeros_0f7a4 55 = .ok (.iinc 1 4, 3) := by decide +kernel
theorem dJ6_numberOfTrailingZeros_0f7a4_58 : decode cJ6_numberOfTrailingZeros_0f7a4 58 = .ok (.iload_n 0, 1) := by decide +kernel
theorem dJ6_numberOfTrailingZeros_0f7a4_59 : decode cJ6_numberOfTrailingZeros_0f7a4 59 = .ok (.iconst 4, 1) := by decide +kernel
theorem dJ6_numberOfTrailingZeros_0f7a4_60 : decode cJ6_numberOfTrailingZeros_0f7a4 60 = .ok (.iushr, 1) := by decide +kernel
theorem dJ6_numberOfTrailingZeros_0f7a4_61 : decode cJ6_numberOfTrailingZeros_0f7a4 61 = .ok (.istore_n 0, 1) := by decide +kernel
theorem dJ6_numberOfTrailingZeros_0f7a4_62 : decode cJ6_numberOfTrailingZeros_0f7a4 62 = .ok (.iload_n 0, 1) := by decide +kernel
theorem dJ6_numberOfTrailingZeros_0f7a4_63 : decode cJ6_numberOfTrailingZeros_0f7a4 63 = .ok (.iconst 4, 1) := by decide +kernel
theorem dJ6_numberOfTrailingZeros_0f7a4_64 : decode cJ6_numberOfTrailingZeros_0f7a4 64 = .ok (.if_icmp .le 10, 3) := by decide +kernel
theorem dJ6_numberOfTrailingZeros_0f7a4_67 : decode cJ6_numberOfTrailingZeros_0f7a4 67 = .ok (.iinc 1 2, 3) := by decide +kernel
theorem dJ6_numberOfTrailingZeros_0f7a4_70 : decode cJ6_numberOfTrailingZeros_0f7a4 70 = .ok (.iload_n 0, 1) := by decide +kernel
theorem dJ6_numberOfTrailingZeros_0f7a4_71 : decode cJ6_numberOfTrailingZeros_0f7a4 71 = .ok (.iconst 2, 1) := by decide +kernel
theorem dJ6_numberOfTrailingZeros_0f7a4_72 : decode cJ6_numberOfTrailingZeros_0f7a4 72 = .ok (.iushr, 1) := by decide +kernel
theorem dJ6_numberOfTrailingZeros_0f7a4_73 : decode cJ6_numberOfTrailingZeros_0f7a4 73 = .ok (.istore_n 0, 1) := by decide +kernel
theorem dJ6_numberOfTrailingZeros_0f7a4_74 : decode cJ6_numberOfTrailingZeros_0f7a4 74 = .ok (.iload_n 1, 1) := by decide +kernel
theorem dJ6_numberOfTrailingZeros_0f7a4_75 : decode cJ6_numberOfTrailingZeros_0f7a4 75 = .ok (.iload_n 0, 1) := by decide +kernel
theorem dJ6_numberOfTrailingZeros_0f7a4_76 : decode cJ6_numberOfTrailingZeros_0f7a4 76 = .ok (.iconst 1, 1) := by decide +kernel
theorem dJ6_numberOfTrailingZeros_0f7a4_77 : decode cJ6_numberOfTrailingZeros_0f7a4 77 = .ok (.iushr, 1) := by decide +kernel
theorem dJ6_numberOfTrailingZeros_0f7a4_78 : decode cJ6_numberOfTrailingZeros_0f7a4 78 = .ok (.iadd, 1) := by decide +kernel
theorem dJ6_numberOfTrailingZeros_0f7a4_79 : decode cJ6_numberOfTrailingZeros_0f7a4 79 = .ok (.ireturn, 1) := by decide +kernel
theorem dJ6_bitCount_0f7a4_0 : decode cJ6_bitCount_0f7a4 0 = .ok (.iload_n 0, 1) := by decide +kernel
theorem dJ6_bitCount_0f7a4_1 : decode cJ6_bitCount_0f7a4 1 = .ok (.iload_n 0, 1) := by decide +kernel
theorem dJ6_bitCount_0f7a4_2 : decode cJ6_bitCount_0f7a4 2 = .ok (.iconst 1, 1) := by decide +kernel
theorem dJ6_bitCount_0f7a4_3 : decode cJ6_bitCount_0f7a4 3 = .ok (.iushr, 1) := by decide +kernel
theorem dJ6_bitCount_0f7a4_4 : decode cJ6_bitCount_0f7a4 4 = .ok (.ldc_w 265, 3) := by decide +kernel
theorem dJ6_bitCount_0f7a4_7 : decode cJ6_bitCount_0f7a4 7 = .ok (.iand, 1) := by decide +kernel
theorem dJ6_bitCount_0f7a4_8 : decode cJ6_bitCount_0f7a4 8 = .ok (.isub, 1) := by decide +kernel
theorem dJ6_bitCount_0f7a4_9 : decode cJ6_bitCount_0f7a4 9 = .ok (.istore_n 0, 1) := by decide +kernel
theorem dJ6_bitCount_0f7a4_10 : decode cJ6_bitCount_0f7a4 10 = .ok (.iload_n 0, 1) := by decide +kernel
theorem dJ6_bitCount_0f7a4_11 : decode cJ6_bitCount_0f7a4 11 = .ok (.ldc_w 266, 3) := by decide +kernel
theorem dJ6_bitCount_0f7a4_14 : decode cJ6_bitCount_0f7a4 14 = .ok (.iand, 1) := by decide +kernel
theorem dJ6_bitCount_0f7a4_15 : decode cJ6_bitCount_0f7a4 15 = .ok (.iload_n 0, 1) := by decide +kernel
theorem dJ6_bitCount_0f7a4_16 : decode cJ6_bitCount_0f7a4 16 = .ok (.iconst 2, 1) := by decide +kernel
theorem dJ6_bitCount_0f7a4_17 : decode cJ6_bitCount_0f7a4 17 = .ok (.iushr, 1) := by decide +kernel
theorem dJ6_bitCount_0f7a4_18 : decode cJ6_bitCount_0f7a4 18 = .ok (.ldc_w 266, 3) := by decide +kernel
theorem dJ6_bitCount_0f7a4_21 : decode cJ6_bitCount_0f7a4 21 = .ok (.iand, 1) := by decide +kernel
theorem dJ6_bitCount_0f7a4_22 : decode cJ6_bitCount_0f7a4 22 = .ok (.iadd, 1) := by decide +kernel
theorem dJ6_bitCount_0f7a4_23 : decode cJ6_bitCount_0f7a4 23 = .ok (.istore_n 0, 1) := by decide +kernel
theorem dJ6_bitCount_0f7a4_24 : decode cJ6_bitCount_0f7a4 24 = .ok (.iload_n 0, 1) := by decide +kernel
theorem dJ6_bitCount_0f7a4_25 : decode cJ6_bitCount_0f7a4 25 = .ok (.iload_n 0, 1) := by decide +kernel
theorem dJ6_bitCount_0f7a4_26 : decode cJ6_bitCount_0f7a4 26 = .ok (.iconst 4, 1) := by decide +kernel
theorem dJ6_bitCount_0f7a4_27 : decode cJ6_bitCount_0f7a4 27 = .ok (.iushr, 1) := by decide +kernel
theorem dJ6_bitCount_0f7a4_28 : decode cJ6_bitCount_0f7a4 28 = .ok (.iadd, 1) := by decide +kernel
theorem dJ6_bitCount_0f7a4_29 : decode cJ6_bitCount_0f7a4 29 = .ok (.ldc_w 267, 3) := by decide +kernel
theorem dJ6_bitCount_0f7a4_32 : decode cJ6_bitCount_0f7a4 32 = .ok (.iand, 1) := by decide +kernel
theorem dJ6_bitCount_0f7a4_33 : decode cJ6_bitCount_0f7a4 33 = .ok (.istore_n 0, 1) := by decide +kernel
theorem dJ6_bitCount_0f7a4_34 : decode cJ6_bitCount_0f7a4 34 = .ok (.iload_n 0, 1) := by decide +kernel
theorem dJ6_bitCount_0f7a4_35 : decode cJ6_bitCount_0f7a4 35 = .ok (.iload_n 0, 1) := by decide +kernel
theorem dJ6_bitCount_0f7a4_36 : decode cJ6_bitCount_0f7a4 36 = .ok (.bipush 8, 2) := by decide +kernel
theorem dJ6_bitCount_0f7a4_38 : decode cJ6_bitCount_0f7a4 38 = .ok (.iushr, 1) := by decide +kernel
theorem dJ6_bitCount_0f7a4_39 : decode cJ6_bitCount_0f7a4 39 = .ok (.iadd, 1) := by decide +kernel
theorem dJ6_bitCount_0f7a4_40 : decode cJ6_bitCount_0f7a4 40 = .ok (.istore_n 0, 1) := by decide +kernel
theorem dJ6_bitCount_0f7a4_41 : decode cJ6_bitCount_0f7a4 41 = .ok (.iload_n 0, 1) := by decide +kernel
theorem dJ6_bitCount_0f7a4_42 : decode cJ6_bitCount_0f7a4 42 = .ok (.iload_n 0, 1) := by decide +kernel
theorem dJ6_bitCount_0f7a4_43 : decode cJ6_bitCount_0f7a4 43 = .ok (.bipush 16, 2) := by decide +kernel
theorem dJ6_bitCount_0f7a4_45 : decode cJ6_bitCount_0f7a4 45 = .ok (.iushr, 1) := by decide +kernel
theorem dJ6_bitCount_0f7a4_46 : decode cJ6_bitCount_0f7a4 46 = .ok (.iadd, 1) := by decide +kernel
theorem dJ6_bitCount_0f7a4_47 : decode cJ6_bitCount_0f7a4 47 = .ok (.istore_n 0, 1) := by decide +kernel
theorem dJ6_bitCount_0f7a4_48 : decode cJ6_bitCount_0f7a4 48 = .ok (.iload_n 0, 1) := by decide +kernel
theorem dJ6_bitCount_0f7a4_49 : decode cJ6_bitCount_0f7a4 49 = .ok (.bipush 63, 2) := by decide +kernel
theorem dJ6_bitCount_0f7a4_51 : decode cJ6_bitCount_0f7a4 51 = .ok (.iand, 1) := by decide +kernel
theorem dJ6_bitCount_0f7a4_52 : decode cJ6_bitCount_0f7a4 52 = .ok (.ireturn, 1) := by decide +kernel
theorem dJ9_max_7cf53_0 : decode cJ9_max_7cf53 0 = .ok (.iload_n 0, 1) := by decide +kernel
theorem dJ9_max_7cf53_1 : decode cJ9_max_7cf53 1 = .ok (.iload_n 1, 1) := by decide +kernel
theorem dJ9_max_7cf53_2 : decode cJ9_max_7cf53 2 = .ok (.if_icmp .lt 7, 3) := by decide +kernel
theorem dJ9_max_7cf53_5 : decode cJ9_max_7cf53 5 = .ok (.iload_n 0, 1) := by decide +kernel
theorem dJ9_max_7cf53_6 : decode cJ9_max_7cf53 6 = .ok (.goto 4, 3) := by decide +kernel
theorem dJ9_max_7cf53_9 : decode cJ9_max_7cf53 9 = .ok (.iload_n 1, 1) := by decide +kernel
theorem dJ9_max_7cf53_10 : decode cJ9_max_7cf53 10 = .ok (.ireturn, 1) := by decide +kernel
theorem dJ9_min_7cf53_0 : decode cJ9_min_7cf53 0 = .ok (.iload_n 0, 1) := by decide +kernel
theorem dJ9_min_7cf53_1 : decode cJ9_min_7cf53 1 = .ok (.iload_n 1, 1) := by decide +kernel
theorem dJ9_min_7cf53_2 : decode cJ9_min_7cf53 2 = .ok (.if_icmp .gt 7, 3) := by decide +kernel
theorem dJ9_min_7cf53_5 : decode cJ9_min_7cf53 5 = .ok (.iload_n 0, 1) := by decide +kernel
theorem dJ9_min_7cf53_6 : decode cJ9_min_7cf53 6 = .ok (.goto 4, 3) := by decide +kernel
theorem dJ9_min_7cf53_9 : decode cJ9_min_7cf53 9 = .ok (.iload_n 1, 1) := by decide +kernel
theorem dJ9_min_7cf53_10 : decode cJ9_min_7cf53 10 = .ok (.ireturn, 1) := by decide +kernel
theorem dL_law_0 : decode cL_law 0 = .ok (.new 7, 3) := by decide +kernel
theorem dL_law_3 : decode cL_law 3 = .ok (.dup, 1) := by decide +kernel
theorem dL_law_4 : decode cL_law 4 = .ok (.invokespecial 9, 3) := by decide +kernel
theorem dL_law_7 : decode cL_law 7 = .ok (.astore_n 1, 1) := by decide +kernel
theorem dL_law_8 : decode cL_law 8 = .ok (.new 10, 3) := by decide +kernel
theorem dL_law_11 : decode cL_law 11 = .ok (.dup, 1) := by decide +kernel
theorem dL_law_12 : decode cL_law 12 = .ok (.invokespecial 12, 3) := by decide +kernel
theorem dL_law_15 : decode cL_law 15 = .ok (.astore_n 2, 1) := by decide +kernel
theorem dL_law_16 : decode cL_law 16 = .ok (.iconst 0, 1) := by decide +kernel
theorem dL_law_17 : decode cL_law 17 = .ok (.istore_n 3, 1) := by decide +kernel
theorem dL_law_18 : decode cL_law 18 = .ok (.iload_n 3, 1) := by decide +kernel
theorem dL_law_19 : decode cL_law 19 = .ok (.aload_n 0, 1) := by decide +kernel
theorem dL_law_20 : decode cL_law 20 = .ok (.arraylength, 1) := by decide +kernel
theorem dL_law_21 : decode cL_law 21 = .ok (.iconst 3, 1) := by decide +kernel
theorem dL_law_22 : decode cL_law 22 = .ok (.isub, 1) := by decide +kernel
theorem dL_law_23 : decode cL_law 23 = .ok (.if_icmp .gt 416, 3) := by decide +kernel
theorem dL_law_26 : decode cL_law 26 = .ok (.aload_n 0, 1) := by decide +kernel
theorem dL_law_27 : decode cL_law 27 = .ok (.iload_n 3, 1) := by decide +kernel
theorem dL_law_28 : decode cL_law 28 = .ok (.iaload, 1) := by decide +kernel
theorem dL_law_29 : decode cL_law 29 = .ok (.bipush 31, 2) := by decide +kernel
theorem dL_law_31 : decode cL_law 31 = .ok (.iand, 1) := by decide +kernel
theorem dL_law_32 : decode cL_law 32 = .ok (.tableswitch 401 0 16 #[84, 95, 106, 139, 162, 185, 198, 211, 244, 267, 280, 293, 306, 319, 342, 355, 378], 84) := by decide +kernel
theorem dL_law_116 : decode cL_law 116 = .ok (.aload_n 1, 1) := by decide +kernel
theorem dL_law_117 : decode cL_law 117 = .ok (.invokevirtual 13, 3) := by decide +kernel
theorem dL_law_120 : decode cL_law 120 = .ok (.aload_n 2, 1) := by decide +kernel
theorem dL_law_121 : decode cL_law 121 = .ok (.invokevirtual 16, 3) := by decide +kernel
theorem dL_law_124 : decode cL_law 124 = .ok (.goto 309, 3) := by decide +kernel
theorem dL_law_127 : decode cL_law 127 = .ok (.aload_n 1, 1) := by decide +kernel
theorem dL_law_128 : decode cL_law 128 = .ok (.invokevirtual 17, 3) := by decide +kernel
theorem dL_law_131 : decode cL_law 131 = .ok (.aload_n 2, 1) := by decide +kernel
theorem dL_law_132 : decode cL_law 132 = .ok (.invokevirtual 20, 3) := by decide +kernel
theorem dL_law_135 : decode cL_law 135 = .ok (.goto 298, 3) := by decide +kernel
theorem dL_law_138 : decode cL_law 138 = .ok (.aload_n 1, 1) := by decide +kernel
theorem dL_law_139 : decode cL_law 139 = .ok (.aload_n 0, 1) := by decide +kernel
theorem dL_law_140 : decode cL_law 140 = .ok (.iload_n 3, 1) := by decide +kernel
theorem dL_law_141 : decode cL_law 141 = .ok (.iconst 1, 1) := by decide +kernel
theorem dL_law_142 : decode cL_law 142 = .ok (.iadd, 1) := by decide +kernel
theorem dL_law_143 : decode cL_law 143 = .ok (.iaload, 1) := by decide +kernel
theorem dL_law_144 : decode cL_law 144 = .ok (.aload_n 0, 1) := by decide +kernel
theorem dL_law_145 : decode cL_law 145 = .ok (.iload_n 3, 1) := by decide +kernel
theorem dL_law_146 : decode cL_law 146 = .ok (.iconst 2, 1) := by decide +kernel
theorem dL_law_147 : decode cL_law 147 = .ok (.iadd, 1) := by decide +kernel
theorem dL_law_148 : decode cL_law 148 = .ok (.iaload, 1) := by decide +kernel
theorem dL_law_149 : decode cL_law 149 = .ok (.invokevirtual 21, 3) := by decide +kernel
theorem dL_law_152 : decode cL_law 152 = .ok (.aload_n 2, 1) := by decide +kernel
theorem dL_law_153 : decode cL_law 153 = .ok (.aload_n 0, 1) := by decide +kernel
theorem dL_law_154 : decode cL_law 154 = .ok (.iload_n 3, 1) := by decide +kernel
theorem dL_law_155 : decode cL_law 155 = .ok (.iconst 1, 1) := by decide +kernel
theorem dL_law_156 : decode cL_law 156 = .ok (.iadd, 1) := by decide +kernel
theorem dL_law_157 : decode cL_law 157 = .ok (.iaload, 1) := by decide +kernel
theorem dL_law_158 : decode cL_law 158 = .ok (.aload_n 0, 1) := by decide +kernel
theorem dL_law_159 : decode cL_law 159 = .ok (.iload_n 3, 1) := by decide +kernel
theorem dL_law_160 : decode cL_law 160 = .ok (.iconst 2, 1) := by decide +kernel
theorem dL_law_161 : decode cL_law 161 = .ok (.iadd, 1) := by decide +kernel
theorem dL_law_162 : decode cL_law 162 = .ok (.iaload, 1) := by decide +kernel
theorem dL_law_163 : decode cL_law 163 = .ok (.invokevirtual 25, 3) := by decide +kernel
theorem dL_law_166 : decode cL_law 166 = .ok (.if_icmp .eq 267, 3) := by decide +kernel
theorem dL_law_169 : decode cL_law 169 = .ok (.iconst 0, 1) := by decide +kernel
theorem dL_law_170 : decode cL_law 170 = .ok (.ireturn, 1) := by decide +kernel
theorem dL_law_171 : decode cL_law 171 = .ok (.aload_n 1, 1) := by decide +kernel
theorem dL_law_172 : decode cL_law 172 = .ok (.aload_n 0, 1) := by decide +kernel
theorem dL_law_173 : decode cL_law 173 = .ok (.iload_n 3, 1) := by decide +kernel
theorem dL_law_174 : decode cL_law 174 = .ok (.iconst 1, 1) := by decide +kernel
theorem dL_law_175 : decode cL_law 175 = .ok (.iadd, 1) := by decide +kernel
theorem dL_law_176 : decode cL_law 176 = .ok (.iaload, 1) := by decide +kernel
theorem dL_law_177 : decode cL_law 177 = .ok (.invokevirtual 26, 3) := by decide +kernel
theorem dL_law_180 : decode cL_law 180 = .ok (.aload_n 2, 1) := by decide +kernel
theorem dL_law_181 : decode cL_law 181 = .ok (.aload_n 0, 1) := by decide +kernel
theorem dL_law_182 : decode cL_law 182 = .ok (.iload_n 3, 1) := by decide +kernel
theorem dL_law_183 : decode cL_law 183 = .ok (.iconst 1, 1) := by decide +kernel
theorem dL_law_184 : decode cL_law 184 = .ok (.iadd, 1) := by decide +kernel
theorem dL_law_185 : decode cL_law 185 = .ok (.iaload, 1) := by decide +kernel
theorem dL_law_186 : decode cL_law 186 = .ok (.invokevirtual 30, 3) := by decide +kernel
theorem dL_law_189 : decode cL_law 189 = .ok (.if_icmp .eq 244, 3) := by decide +kernel
theorem dL_law_192 : decode cL_law 192 = .ok (.iconst 0, 1) := by decide +kernel
theorem dL_law_193 : decode cL_law 193 = .ok (.ireturn, 1) := by decide +kernel
theorem dL_law_194 : decode cL_law 194 = .ok (.aload_n 1, 1) := by decide +kernel
theorem dL_law_195 : decode cL_law 195 = .ok (.aload_n 0, 1) := by decide +kernel
theorem dL_law_196 : decode cL_law 196 = .ok (.iload_n 3, 1) := by decide +kernel
theorem dL_law_197 : decode cL_law 197 = .ok (.iconst 1, 1) := by decide +kernel
theorem dL_law_198 : decode cL_law 198 = .ok (.iadd, 1) := by decide +kernel
theorem dL_law_199 : decode cL_law 199 = .ok (.iaload, 1) := by decide +kernel
theorem dL_law_200 : decode cL_law 200 = .ok (.invokevirtual 31, 3) := by decide +kernel
theorem dL_law_203 : decode cL_law 203 = .ok (.aload_n 2, 1) := by decide +kernel
theorem dL_law_204 : decode cL_law 204 = .ok (.aload_n 0, 1) := by decide +kernel
theorem dL_law_205 : decode cL_law 205 = .ok (.iload_n 3, 1) := by decide +kernel
theorem dL_law_206 : decode cL_law 206 = .ok (.iconst 1, 1) := by decide +kernel
theorem dL_law_207 : decode cL_law 207 = .ok (.iadd, 1) := by decide +kernel
theorem dL_law_208 : decode cL_law 208 = .ok (.iaload, 1) := by decide +kernel
theorem dL_law_209 : decode cL_law 209 = .ok (.invokevirtual 35, 3) := by decide +kernel
theorem dL_law_212 : decode cL_law 212 = .ok (.if_icmp .eq 221, 3) := by decide +kernel
theorem dL_law_215 : decode cL_law 215 = .ok (.iconst 0, 1) := by decide +kernel
theorem dL_law_216 : decode cL_law 216 = .ok (.ireturn, 1) := by decide +kernel
theorem dL_law_217 : decode cL_law 217 = .ok (.aload_n 1, 1) := by decide +kernel
theorem dL_law_218 : decode cL_law 218 = .ok (.invokevirtual 36, 3) := by decide +kernel
theorem dL_law_221 : decode cL_law 221 = .ok (.aload_n 2, 1) := by decide +kernel
theorem dL_law_222 : decode cL_law 222 = .ok (.invokevirtual 40, 3) := by decide +kernel
theorem dL_law_225 : decode cL_law 225 = .ok (.if_icmp .eq 208, 3) := by decide +kernel
theorem dL_law_228 : decode cL_law 228 = .ok (.iconst 0, 1) := by decide +kernel
theorem dL_law_229 : decode cL_law 229 = .ok (.ireturn, 1) := by decide +kernel
theorem dL_law_230 : decode cL_law 230 = .ok (.aload_n 1, 1) := by decide +kernel
theorem dL_law_231 : decode cL_law 231 = .ok (.invokevirtual 41, 3) := by decide +kernel
theorem dL_law_234 : decode cL_law 234 = .ok (.aload_n 2, 1) := by decide +kernel
theorem dL_law_235 : decode cL_law 235 = .ok (.invokevirtual 44, 3) := by decide +kernel
theorem dL_law_238 : decode cL_law 238 = .ok (.if_icmp .eq 195, 3) := by decide +kernel
theorem dL_law_241 : decode cL_law 241 = .ok (.iconst 0, 1) := by decide +kernel
theorem dL_law_242 : decode cL_law 242 = .ok (.ireturn, 1) := by decide +kernel
theorem dL_law_243 : decode cL_law 243 = .ok (.aload_n 1, 1) := by decide +kernel
theorem dL_law_244 : decode cL_law 244 = .ok (.aload_n 0, 1) := by decide +kernel
theorem dL_law_245 : decode cL_law 245 = .ok (.iload_n 3, 1) := by decide +kernel
theorem dL_law_246 : decode cL_law 246 = .ok (.iconst 1, 1) := by decide +kernel
theorem dL_law_247 : decode cL_law 247 = .ok (.iadd, 1) := by decide +kernel
theorem dL_law_248 : decode cL_law 248 = .ok (.iaload, 1) := by decide +kernel
theorem dL_law_249 : decode cL_law 249 = .ok (.aload_n 0, 1) := by decide +kernel
theorem dL_law_250 : decode cL_law 250 = .ok (.iload_n 3, 1) := by decide +kernel
theorem dL_law_251 : decode cL_law 251 = .ok (.iconst 2, 1) := by decide +kernel
theorem dL_law_252 : decode cL_law 252 = .ok (.iadd, 1) := by decide +kernel
theorem dL_law_253 : decode cL_law 253 = .ok (.iaload, 1) := by decide +kernel
theorem dL_law_254 : decode cL_law 254 = .ok (.invokevirtual 45, 3) := by decide +kernel
theorem dL_law_257 : decode cL_law 257 = .ok (.aload_n 2, 1) := by decide +kernel
theorem dL_law_258 : decode cL_law 258 = .ok (.aload_n 0, 1) := by decide +kernel
theorem dL_law_259 : decode cL_law 259 = .ok (.iload_n 3, 1) := by decide +kernel
theorem dL_law_260 : decode cL_law 260 = .ok (.iconst 1, 1) := by decide +kernel
theorem dL_law_261 : decode cL_law 261 = .ok (.iadd, 1) := by decide +kernel
theorem dL_law_262 : decode cL_law 262 = .ok (.iaload, 1) := by decide +kernel
theorem dL_law_263 : decode cL_law 263 = .ok (.aload_n 0, 1) := by decide +kernel
theorem dL_law_264 : decode cL_law 264 = .ok (.iload_n 3, 1) := by decide +kernel
theorem dL_law_265 : decode cL_law 265 = .ok (.iconst 2, 1) := by decide +kernel
theorem dL_law_266 : decode cL_law 266 = .ok (.iadd, 1) := by decide +kernel
theorem dL_law_267 : decode cL_law 267 = .ok (.iaload, 1) := by decide +kernel
theorem dL_law_268 : decode cL_law 268 = .ok (.invokevirtual 49, 3) := by decide +kernel
theorem dL_law_271 : decode cL_law 271 = .ok (.if_icmp .eq 162, 3) := by decide +kernel
theorem dL_law_274 : decode cL_law 274 = .ok (.iconst 0, 1) := by decide +kernel
theorem dL_law_275 : decode cL_law 275 = .ok (.ireturn, 1) := by decide +kernel
theorem dL_law_276 : decode cL_law 276 = .ok (.aload_n 1, 1) := by decide +kernel
theorem dL_law_277 : decode cL_law 277 = .ok (.aload_n 0, 1) := by decide +kernel
theorem dL_law_278 : decode cL_law 278 = .ok (.iload_n 3, 1) := by decide +kernel
theorem dL_law_279 : decode cL_law 279 = .ok (.iconst 1, 1) := by decide +kernel
theorem dL_law_280 : decode cL_law 280 = .ok (.iadd, 1) := by decide +kernel
theorem dL_law_281 : decode cL_law 281 = .ok (.iaload, 1) := by decide +kernel
theorem dL_law_282 : decode cL_law 282 = .ok (.invokevirtual 50, 3) := by decide +kernel
theorem dL_law_285 : decode cL_law 285 = .ok (.aload_n 2, 1) := by decide +kernel
theorem dL_law_286 : decode cL_law 286 = .ok (.aload_n 0, 1) := by decide +kernel
theorem dL_law_287 : decode cL_law 287 = .ok (.iload_n 3, 1) := by decide +kernel
theorem dL_law_288 : decode cL_law 288 = .ok (.iconst 1, 1) := by decide +kernel
theorem dL_law_289 : decode cL_law 289 = .ok (.iadd, 1) := by decide +kernel
theorem dL_law_290 : decode cL_law 290 = .ok (.iaload, 1) := by decide +kernel
theorem dL_law_291 : decode cL_law 291 = .ok (.invokevirtual 53, 3) := by decide +kernel
theorem dL_law_294 : decode cL_law 294 = .ok (.if_icmp .eq 139, 3) := by decide +kernel
theorem dL_law_297 : decode cL_law 297 = .ok (.iconst 0, 1) := by decide +kernel
theorem dL_law_298 : decode cL_law 298 = .ok (.ireturn, 1) := by decide +kernel
theorem dL_law_299 : decode cL_law 299 = .ok (.aload_n 1, 1) := by decide +kernel
theorem dL_law_300 : decode cL_law 300 = .ok (.invokevirtual 54, 3) := by decide +kernel
theorem dL_law_303 : decode cL_law 303 = .ok (.aload_n 2, 1) := by decide +kernel
theorem dL_law_304 : decode cL_law 304 = .ok (.invokevirtual 58, 3) := by decide +kernel
theorem dL_law_307 : decode cL_law 307 = .ok (.if_icmp .eq 126, 3) := by decide +kernel
theorem dL_law_310 : decode cL_law 310 = .ok (.iconst 0, 1) := by decide +kernel
theorem dL_law_311 : decode cL_law 311 = .ok (.ireturn, 1) := by decide +kernel
theorem dL_law_312 : decode cL_law 312 = .ok (.aload_n 1, 1) := by decide +kernel
theorem dL_law_313 : decode cL_law 313 = .ok (.invokevirtual 59, 3) := by decide +kernel
theorem dL_law_316 : decode cL_law 316 = .ok (.aload_n 2, 1) := by decide +kernel
theorem dL_law_317 : decode cL_law 317 = .ok (.invokevirtual 62, 3) := by decide +kernel
theorem dL_law_320 : decode cL_law 320 = .ok (.if_icmp .eq 113, 3) := by decide +kernel
theorem dL_law_323 : decode cL_law 323 = .ok (.iconst 0, 1) := by decide +kernel
theorem dL_law_324 : decode cL_law 324 = .ok (.ireturn, 1) := by decide +kernel
theorem dL_law_325 : decode cL_law 325 = .ok (.aload_n 1, 1) := by decide +kernel
theorem dL_law_326 : decode cL_law 326 = .ok (.invokevirtual 63, 3) := by decide +kernel
theorem dL_law_329 : decode cL_law 329 = .ok (.aload_n 2, 1) := by decide +kernel
theorem dL_law_330 : decode cL_law 330 = .ok (.invokevirtual 66, 3) := by decide +kernel
theorem dL_law_333 : decode cL_law 333 = .ok (.if_icmp .eq 100, 3) := by decide +kernel
theorem dL_law_336 : decode cL_law 336 = .ok (.iconst 0, 1) := by decide +kernel
theorem dL_law_337 : decode cL_law 337 = .ok (.ireturn, 1) := by decide +kernel
theorem dL_law_338 : decode cL_law 338 = .ok (.aload_n 1, 1) := by decide +kernel
theorem dL_law_339 : decode cL_law 339 = .ok (.invokevirtual 67, 3) := by decide +kernel
theorem dL_law_342 : decode cL_law 342 = .ok (.aload_n 2, 1) := by decide +kernel
theorem dL_law_343 : decode cL_law 343 = .ok (.invokevirtual 70, 3) := by decide +kernel
theorem dL_law_346 : decode cL_law 346 = .ok (.if_icmp .eq 87, 3) := by decide +kernel
theorem dL_law_349 : decode cL_law 349 = .ok (.iconst 0, 1) := by decide +kernel
theorem dL_law_350 : decode cL_law 350 = .ok (.ireturn, 1) := by decide +kernel
theorem dL_law_351 : decode cL_law 351 = .ok (.aload_n 1, 1) := by decide +kernel
theorem dL_law_352 : decode cL_law 352 = .ok (.aload_n 0, 1) := by decide +kernel
theorem dL_law_353 : decode cL_law 353 = .ok (.iload_n 3, 1) := by decide +kernel
theorem dL_law_354 : decode cL_law 354 = .ok (.iconst 1, 1) := by decide +kernel
theorem dL_law_355 : decode cL_law 355 = .ok (.iadd, 1) := by decide +kernel
theorem dL_law_356 : decode cL_law 356 = .ok (.iaload, 1) := by decide +kernel
theorem dL_law_357 : decode cL_law 357 = .ok (.invokevirtual 71, 3) := by decide +kernel
theorem dL_law_360 : decode cL_law 360 = .ok (.aload_n 2, 1) := by decide +kernel
theorem dL_law_361 : decode cL_law 361 = .ok (.aload_n 0, 1) := by decide +kernel
theorem dL_law_362 : decode cL_law 362 = .ok (.iload_n 3, 1) := by decide +kernel
theorem dL_law_363 : decode cL_law 363 = .ok (.iconst 1, 1) := by decide +kernel
theorem dL_law_364 : decode cL_law 364 = .ok (.iadd, 1) := by decide +kernel
theorem dL_law_365 : decode cL_law 365 = .ok (.iaload, 1) := by decide +kernel
theorem dL_law_366 : decode cL_law 366 = .ok (.invokevirtual 74, 3) := by decide +kernel
theorem dL_law_369 : decode cL_law 369 = .ok (.if_icmp .eq 64, 3) := by decide +kernel
theorem dL_law_372 : decode cL_law 372 = .ok (.iconst 0, 1) := by decide +kernel
theorem dL_law_373 : decode cL_law 373 = .ok (.ireturn, 1) := by decide +kernel
theorem dL_law_374 : decode cL_law 374 = .ok (.aload_n 1, 1) := by decide +kernel
theorem dL_law_375 : decode cL_law 375 = .ok (.invokevirtual 75, 3) := by decide +kernel
theorem dL_law_378 : decode cL_law 378 = .ok (.aload_n 2, 1) := by decide +kernel
theorem dL_law_379 : decode cL_law 379 = .ok (.invokevirtual 78, 3) := by decide +kernel
theorem dL_law_382 : decode cL_law 382 = .ok (.if_icmp .eq 51, 3) := by decide +kernel
theorem dL_law_385 : decode cL_law 385 = .ok (.iconst 0, 1) := by decide +kernel
theorem dL_law_386 : decode cL_law 386 = .ok (.ireturn, 1) := by decide +kernel
theorem dL_law_387 : decode cL_law 387 = .ok (.aload_n 1, 1) := by decide +kernel
theorem dL_law_388 : decode cL_law 388 = .ok (.aload_n 0, 1) := by decide +kernel
theorem dL_law_389 : decode cL_law 389 = .ok (.iload_n 3, 1) := by decide +kernel
theorem dL_law_390 : decode cL_law 390 = .ok (.iconst 1, 1) := by decide +kernel
theorem dL_law_391 : decode cL_law 391 = .ok (.iadd, 1) := by decide +kernel
theorem dL_law_392 : decode cL_law 392 = .ok (.iaload, 1) := by decide +kernel
theorem dL_law_393 : decode cL_law 393 = .ok (.invokevirtual 79, 3) := by decide +kernel
theorem dL_law_396 : decode cL_law 396 = .ok (.aload_n 2, 1) := by decide +kernel
theorem dL_law_397 : decode cL_law 397 = .ok (.aload_n 0, 1) := by decide +kernel
theorem dL_law_398 : decode cL_law 398 = .ok (.iload_n 3, 1) := by decide +kernel
theorem dL_law_399 : decode cL_law 399 = .ok (.iconst 1, 1) := by decide +kernel
theorem dL_law_400 : decode cL_law 400 = .ok (.iadd, 1) := by decide +kernel
theorem dL_law_401 : decode cL_law 401 = .ok (.iaload, 1) := by decide +kernel
theorem dL_law_402 : decode cL_law 402 = .ok (.invokevirtual 82, 3) := by decide +kernel
theorem dL_law_405 : decode cL_law 405 = .ok (.if_icmp .eq 28, 3) := by decide +kernel
theorem dL_law_408 : decode cL_law 408 = .ok (.iconst 0, 1) := by decide +kernel
theorem dL_law_409 : decode cL_law 409 = .ok (.ireturn, 1) := by decide +kernel
theorem dL_law_410 : decode cL_law 410 = .ok (.aload_n 1, 1) := by decide +kernel
theorem dL_law_411 : decode cL_law 411 = .ok (.aload_n 0, 1) := by decide +kernel
theorem dL_law_412 : decode cL_law 412 = .ok (.iload_n 3, 1) := by decide +kernel
theorem dL_law_413 : decode cL_law 413 = .ok (.iconst 1, 1) := by decide +kernel
theorem dL_law_414 : decode cL_law 414 = .ok (.iadd, 1) := by decide +kernel
theorem dL_law_415 : decode cL_law 415 = .ok (.iaload, 1) := by decide +kernel
theorem dL_law_416 : decode cL_law 416 = .ok (.invokevirtual 83, 3) := by decide +kernel
theorem dL_law_419 : decode cL_law 419 = .ok (.aload_n 2, 1) := by decide +kernel
theorem dL_law_420 : decode cL_law 420 = .ok (.aload_n 0, 1) := by decide +kernel
theorem dL_law_421 : decode cL_law 421 = .ok (.iload_n 3, 1) := by decide +kernel
theorem dL_law_422 : decode cL_law 422 = .ok (.iconst 1, 1) := by decide +kernel
theorem dL_law_423 : decode cL_law 423 = .ok (.iadd, 1) := by decide +kernel
theorem dL_law_424 : decode cL_law 424 = .ok (.iaload, 1) := by decide +kernel
theorem dL_law_425 : decode cL_law 425 = .ok (.invokevirtual 86, 3) := by decide +kernel
theorem dL_law_428 : decode cL_law 428 = .ok (.if_icmp .eq 5, 3) := by decide +kernel
theorem dL_law_431 : decode cL_law 431 = .ok (.iconst 0, 1) := by decide +kernel
theorem dL_law_432 : decode cL_law 432 = .ok (.ireturn, 1) := by decide +kernel
theorem dL_law_433 : decode cL_law 433 = .ok (.iinc 3 3, 3) := by decide +kernel
theorem dL_law_436 : decode cL_law 436 = .ok (.goto (-418), 3) := by decide +kernel
theorem dL_law_439 : decode cL_law 439 = .ok (.iconst 1, 1) := by decide +kernel
theorem dL_law_440 : decode cL_law 440 = .ok (.ireturn, 1) := by decide +kernel
abbrev vwCl : List vw_C := [(RX0, TX0, 3), (RX1, TX1, 2), (RX2, TX2, 5), (RX3, TX3, 2), (RX4, TX4, 8), (RX5, TX5, 20)]
