theorem dX5_init_94 : decode cX5_init 94 = .ok (.bipush 8, 2) := by decide +kernel
theorem dX5_init_96 : decode cX5_init 96 = .ok (.newarray .int, 2) := by decide +kernel
theorem dX5_init_98 : decode cX5_init 98 = .ok (.putfield 43, 3) := by decide +kernel
theorem dX5_init_101 : decode cX5_init 101 = .ok (.aload_n 0, 1) := by decide +kernel
theorem dX5_init_102 : decode cX5_init 102 = .ok (.bipush 8, 2) := by decide +kernel
theorem dX5_init_104 : decode cX5_init 104 = .ok (.newarray .boolean, 2) := by decide +kernel
theorem dX5_init_106 : decode cX5_init 106 = .ok (.putfield 46, 3) := by decide +kernel
theorem dX5_init_109 : decode cX5_init 109 = .ok (.aload_n 0, 1) := by decide +kernel
theorem dX5_init_110 : decode cX5_init 110 = .ok (.sipush 1800, 3) := by decide +kernel
theorem dX5_init_113 : decode cX5_init 113 = .ok (.newarray .int, 2) := by decide +kernel
theorem dX5_init_115 : decode cX5_init 115 = .ok (.putfield 50, 3) := by decide +kernel
theorem dX5_init_118 : decode cX5_init 118 = .ok (.aload_n 0, 1) := by decide +kernel
theorem dX5_init_119 : decode cX5_init 119 = .ok (.bipush 100, 2) := by decide +kernel
theorem dX5_init_121 : decode cX5_init 121 = .ok (.newarray .int, 2) := by decide +kernel
theorem dX5_init_123 : decode cX5_init 123 = .ok (.putfield 53, 3) := by decide +kernel
theorem dX5_init_126 : decode cX5_init 126 = .ok (.aload_n 0, 1) := by decide +kernel
theorem dX5_init_127 : decode cX5_init 127 = .ok (.sipush 10368, 3) := by decide +kernel
theorem dX5_init_130 : decode cX5_init 130 = .ok (.newarray .int, 2) := by decide +kernel
theorem dX5_init_132 : decode cX5_init 132 = .ok (.putfield 56, 3) := by decide +kernel
theorem dX5_init_135 : decode cX5_init 135 = .ok (.aload_n 0, 1) := by decide +kernel
theorem dX5_init_136 : decode cX5_init 136 = .ok (.sipush 2592, 3) := by decide +kernel
theorem dX5_init_139 : decode cX5_init 139 = .ok (.newarray .int, 2) := by decide +kernel
theorem dX5_init_141 : decode cX5_init 141 = .ok (.putfield 59, 3) := by decide +kernel
theorem dX5_init_144 : decode cX5_init 144 = .ok (.iconst 0, 1) := by decide +kernel
theorem dX5_init_145 : decode cX5_init 145 = .ok (.istore_n 1, 1) := by decide +kernel
theorem dX5_init_146 : decode cX5_init 146 = .ok (.iload_n 1, 1) := by decide +kernel
theorem dX5_init_147 : decode cX5_init 147 = .ok (.bipush 18, 2) := by decide +kernel
theorem dX5_init_149 : decode cX5_init 149 = .ok (.if_icmp .ge 54, 3) := by decide +kernel
theorem dX5_init_152 : decode cX5_init 152 = .ok (.iconst 0, 1) := by decide +kernel
theorem dX5_init_153 : decode cX5_init 153 = .ok (.istore_n 2, 1) := by decide +kernel
theorem dX5_init_154 : decode cX5_init 154 = .ok (.iload_n 2, 1) := by decide +kernel
theorem dX5_init_155 : decode cX5_init 155 = .ok (.iconst 4, 1) := by decide +kernel
theorem dX5_init_156 : decode cX5_init 156 = .ok (.if_icmp .ge 41, 3) := by decide +kernel
theorem dX5_init_159 : decode cX5_init 159 = .ok (.aload_n 0, 1) := by decide +kernel
theorem dX5_init_160 : decode cX5_init 160 = .ok (.getfield 31, 3) := by decide +kernel
theorem dX5_init_163 : decode cX5_init 163 = .ok (.iconst 4, 1) := by decide +kernel
theorem dX5_init_164 : decode cX5_init 164 = .ok (.iload_n 1, 1) := by decide +kernel
theorem dX5_init_165 : decode cX5_init 165 = .ok (.imul, 1) := by decide +kernel
theorem dX5_init_166 : decode cX5_init 166 = .ok (.iload_n 2, 1) := by decide +kernel
theorem dX5_init_167 : decode cX5_init 167 = .ok (.iadd, 1) := by decide +kernel
theorem dX5_init_168 : decode cX5_init 168 = .ok (.iload_n 1, 1) := by decide +kernel
theorem dX5_init_169 : decode cX5_init 169 = .ok (.iload_n 2, 1) := by decide +kernel
theorem dX5_init_170 : decode cX5_init 170 = .ok (.iconst 1, 1) := by decide +kernel
theorem dX5_init_171 : decode cX5_init 171 = .ok (.invokestatic 62, 3) := by decide +kernel
theorem dX5_init_174 : decode cX5_init 174 = .ok (.iastore, 1) := by decide +kernel
theorem dX5_init_175 : decode cX5_init 175 = .ok (.aload_n 0, 1) := by decide +kernel
theorem dX5_init_176 : decode cX5_init 176 = .ok (.getfield 34, 3) := by decide +kernel
theorem dX5_init_179 : decode cX5_init 179 = .ok (.iconst 4, 1) := by decide +kernel
theorem dX5_init_180 : decode cX5_init 180 = .ok (.iload_n 1, 1) := by decide +kernel
theorem dX5_init_181 : decode cX5_init 181 = .ok (.imul, 1) := by decide +kernel
theorem dX5_init_182 : decode cX5_init 182 = .ok (.iload_n 2, 1) := by decide +kernel
theorem dX5_init_183 : decode cX5_init 183 = .ok (.iadd, 1) := by decide +kernel
theorem dX5_init_184 : decode cX5_init 184 = .ok (.iload_n 1, 1) := by decide +kernel
theorem dX5_init_185 : decode cX5_init 185 = .ok (.iload_n 2, 1) := by decide +kernel
theorem dX5_init_186 : decode cX5_init 186 = .ok (.iconst 2, 1) := by decide +kernel
theorem dX5_init_187 : decode cX5_init 187 = .ok (.invokestatic 62, 3) := by decide +kernel
theorem dX5_init_190 : decode cX5_init 190 = .ok (.iastore, 1) := by decide +kernel
theorem dX5_init_191 : decode cX5_init 191 = .ok (.iinc 2 1, 3) := by decide +kernel
theorem dX5_init_194 : decode cX5_init 194 = .ok (.goto (-40), 3) := by decide +kernel
theorem dX5_init_197 : decode cX5_init 197 = .ok (.iinc 1 1, 3) := by decide +kernel
theorem dX5_init_200 : decode cX5_init 200 = .ok (.goto (-54), 3) := by decide +kernel
theorem dX5_init_203 : decode cX5_init 203 = .ok (.aload_n 0, 1) := by decide +kernel
theorem dX5_init_204 : decode cX5_init 204 = .ok (.invokevirtual 66, 3) := by decide +kernel
theorem dX5_init_207 : decode cX5_init 207 = .ok (.return_, 1) := by decide +kernel
theorem dX5_rowOf_0 : decode cX5_rowOf 0 = .ok (.iload_n 0, 1) := by decide +kernel
theorem dX5_rowOf_1 : decode cX5_rowOf 1 = .ok (.iconst 3, 1) := by decide +kernel
theorem dX5_rowOf_2 : decode cX5_rowOf 2 = .ok (.idiv, 1) := by decide +kernel
theorem dX5_rowOf_3 : decode cX5_rowOf 3 = .ok (.ireturn, 1) := by decide +kernel
set_option maxRecDepth 20000 in
set_option maxRecDepth 100000 in
theorem ggX5_reach_X5_rowOf : GoodIn wsX5_reach wsX5_rowOf := goodIn_r _ [4] (by rfl) (by decide +kernel)
set_option maxRecDepth 20000 in
theorem gX5_reach_X5_rowOf : GoodIn wsX5_reach (va_wsS RX5 69 yX5_rowOf wsX5_rowOf) := goodIn_app (goodIn_of _ (by decide +kernel)) ggX5_reach_X5_rowOf
theorem dX5_reach_0 : decode cX5_reach 0 = .ok (.iload_n 0, 1) := by decide +kernel
theorem dX5_reach_1 : decode cX5_reach 1 = .ok (.invokestatic 69, 3) := by decide +kernel
theorem dX5_reach_4 : decode cX5_reach 4 = .ok (.iload_n 1, 1) := by decide +kernel
theorem dX5_reach_5 : decode cX5_reach 5 = .ok (.iconst 2, 1) := by decide +kernel
theorem dX5_reach_6 : decode cX5_reach 6 = .ok (.if_icmp .ge 7, 3) := by decide +kernel
theorem dX5_reach_9 : decode cX5_reach 9 = .ok (.iload_n 2, 1) := by decide +kernel
theorem dX5_reach_10 : decode cX5_reach 10 = .ok (.goto 5, 3) := by decide +kernel
theorem dX5_reach_13 : decode cX5_reach 13 = .ok (.iload_n 2, 1) := by decide +kernel
theorem dX5_reach_14 : decode cX5_reach 14 = .ok (.ineg, 1) := by decide +kernel
theorem dX5_reach_15 : decode cX5_reach 15 = .ok (.iadd, 1) := by decide +kernel
theorem dX5_reach_16 : decode cX5_reach 16 = .ok (.istore_n 3, 1) := by decide +kernel
theorem dX5_reach_17 : decode cX5_reach 17 = .ok (.iconst 2, 1) := by decide +kernel
theorem dX5_reach_18 : decode cX5_reach 18 = .ok (.iload_n 0, 1) := by decide +kernel
theorem dX5_reach_19 : decode cX5_reach 19 = .ok (.iconst 3, 1) := by decide +kernel
theorem dX5_reach_20 : decode cX5_reach 20 = .ok (.irem, 1) := by decide +kernel
theorem dX5_reach_21 : decode cX5_reach 21 = .ok (.imul, 1) := by decide +kernel
theorem dX5_reach_22 : decode cX5_reach 22 = .ok (.iload_n 0, 1) := by decide +kernel
theorem dX5_reach_23 : decode cX5_reach 23 = .ok (.invokestatic 69, 3) := by decide +kernel
theorem dX5_reach_26 : decode cX5_reach 26 = .ok (.iconst 2, 1) := by decide +kernel
theorem dX5_reach_27 : decode cX5_reach 27 = .ok (.irem, 1) := by decide +kernel
theorem dX5_reach_28 : decode cX5_reach 28 = .ok (.iadd, 1) := by decide +kernel
theorem dX5_reach_29 : decode cX5_reach 29 = .ok (.iload_n 1, 1) := by decide +kernel
theorem dX5_reach_30 : decode cX5_reach 30 = .ok (.iconst 2, 1) := by decide +kernel
theorem dX5_reach_31 : decode cX5_reach 31 = .ok (.irem, 1) := by decide +kernel
theorem dX5_reach_32 : decode cX5_reach 32 = .ok (.ifCond .ne 8, 3) := by decide +kernel
theorem dX5_reach_35 : decode cX5_reach 35 = .ok (.iload_n 2, 1) := by decide +kernel
theorem dX5_reach_36 : decode cX5_reach 36 = .ok (.ineg, 1) := by decide +kernel
theorem dX5_reach_37 : decode cX5_reach 37 = .ok (.goto 4, 3) := by decide +kernel
theorem dX5_reach_40 : decode cX5_reach 40 = .ok (.iload_n 2, 1) := by decide +kernel
theorem dX5_reach_41 : decode cX5_reach 41 = .ok (.iadd, 1) := by decide +kernel
theorem dX5_reach_42 : decode cX5_reach 42 = .ok (.istore 4, 2) := by decide +kernel
theorem dX5_reach_44 : decode cX5_reach 44 = .ok (.iload_n 3, 1) := by decide +kernel
theorem dX5_reach_45 : decode cX5_reach 45 = .ok (.ifCond .lt 23, 3) := by decide +kernel
theorem dX5_reach_48 : decode cX5_reach 48 = .ok (.iload_n 3, 1) := by decide +kernel
theorem dX5_reach_49 : decode cX5_reach 49 = .ok (.iconst 5, 1) := by decide +kernel
theorem dX5_reach_50 : decode cX5_reach 50 = .ok (.if_icmp .gt 18, 3) := by decide +kernel
theorem dX5_reach_53 : decode cX5_reach 53 = .ok (.iload 4, 2) := by decide +kernel
theorem dX5_reach_55 : decode cX5_reach 55 = .ok (.ifCond .lt 13, 3) := by decide +kernel
theorem dX5_reach_58 : decode cX5_reach 58 = .ok (.iload 4, 2) := by decide +kernel
theorem dX5_reach_60 : decode cX5_reach 60 = .ok (.iconst 5, 1) := by decide +kernel
theorem dX5_reach_61 : decode cX5_reach 61 = .ok (.if_icmp .gt 7, 3) := by decide +kernel
theorem dX5_reach_64 : decode cX5_reach 64 = .ok (.iconst 1, 1) := by decide +kernel
theorem dX5_reach_65 : decode cX5_reach 65 = .ok (.goto 4, 3) := by decide +kernel
theorem dX5_reach_68 : decode cX5_reach 68 = .ok (.iconst 0, 1) := by decide +kernel
theorem dX5_reach_69 : decode cX5_reach 69 = .ok (.istore 5, 2) := by decide +kernel
theorem dX5_reach_71 : decode cX5_reach 71 = .ok (.iload 5, 2) := by decide +kernel
theorem dX5_reach_73 : decode cX5_reach 73 = .ok (.ifCond .eq 14, 3) := by decide +kernel
theorem dX5_reach_76 : decode cX5_reach 76 = .ok (.iconst 3, 1) := by decide +kernel
theorem dX5_reach_77 : decode cX5_reach 77 = .ok (.iload_n 3, 1) := by decide +kernel
theorem dX5_reach_78 : decode cX5_reach 78 = .ok (.imul, 1) := by decide +kernel
theorem dX5_reach_79 : decode cX5_reach 79 = .ok (.iload 4, 2) := by decide +kernel
theorem dX5_reach_81 : decode cX5_reach 81 = .ok (.iconst 2, 1) := by decide +kernel
theorem dX5_reach_82 : decode cX5_reach 82 = .ok (.idiv, 1) := by decide +kernel
theorem dX5_reach_83 : decode cX5_reach 83 = .ok (.iadd, 1) := by decide +kernel
theorem dX5_reach_84 : decode cX5_reach 84 = .ok (.goto 4, 3) := by decide +kernel
theorem dX5_reach_87 : decode cX5_reach 87 = .ok (.iconst (-1), 1) := by decide +kernel
theorem dX5_reach_88 : decode cX5_reach 88 = .ok (.ireturn, 1) := by decide +kernel
theorem dX5_sideOf_0 : decode cX5_sideOf 0 = .ok (.iload_n 0, 1) := by decide +kernel
theorem dX5_sideOf_1 : decode cX5_sideOf 1 = .ok (.ifCond .ne 7, 3) := by decide +kernel
theorem dX5_sideOf_4 : decode cX5_sideOf 4 = .ok (.iconst (-1), 1) := by decide +kernel
theorem dX5_sideOf_5 : decode cX5_sideOf 5 = .ok (.goto 13, 3) := by decide +kernel
theorem dX5_sideOf_8 : decode cX5_sideOf 8 = .ok (.iload_n 0, 1) := by decide +kernel
theorem dX5_sideOf_9 : decode cX5_sideOf 9 = .ok (.iconst 3, 1) := by decide +kernel
theorem dX5_sideOf_10 : decode cX5_sideOf 10 = .ok (.if_icmp .ge 7, 3) := by decide +kernel
theorem dX5_sideOf_13 : decode cX5_sideOf 13 = .ok (.iconst 0, 1) := by decide +kernel
theorem dX5_sideOf_14 : decode cX5_sideOf 14 = .ok (.goto 4, 3) := by decide +kernel
theorem dX5_sideOf_17 : decode cX5_sideOf 17 = .ok (.iconst 1, 1) := by decide +kernel
theorem dX5_sideOf_18 : decode cX5_sideOf 18 = .ok (.ireturn, 1) := by decide +kernel
theorem dX5_isKing_0 : decode cX5_isKing 0 = .ok (.iload_n 0, 1) := by decide +kernel
theorem dX5_isKing_1 : decode cX5_isKing 1 = .ok (.iconst 2, 1) := by decide +kernel
theorem dX5_isKing_2 : decode cX5_isKing 2 = .ok (.if_icmp .eq 8, 3) := by decide +kernel
theorem dX5_isKing_5 : decode cX5_isKing 5 = .ok (.iload_n 0, 1) := by decide +kernel
theorem dX5_isKing_6 : decode cX5_isKing 6 = .ok (.iconst 4, 1) := by decide +kernel
theorem dX5_isKing_7 : decode cX5_isKing 7 = .ok (.if_icmp .ne 7, 3) := by decide +kernel
theorem dX5_isKing_10 : decode cX5_isKing 10 = .ok (.iconst 1, 1) := by decide +kernel
theorem dX5_isKing_11 : decode cX5_isKing 11 = .ok (.goto 4, 3) := by decide +kernel
theorem dX5_isKing_14 : decode cX5_isKing 14 = .ok (.iconst 0, 1) := by decide +kernel
theorem dX5_isKing_15 : decode cX5_isKing 15 = .ok (.ireturn, 1) := by decide +kernel
set_option maxRecDepth 20000 in
set_option maxRecDepth 100000 in
theorem ggX5_goes_X5_isKing : GoodIn wsX5_goes wsX5_isKing := goodIn_r _ [4] (by rfl) (by decide +kernel)
set_option maxRecDepth 20000 in
theorem gX5_goes_X5_isKing : GoodIn wsX5_goes (va_wsS RX5 73 yX5_isKing wsX5_isKing) := goodIn_app (goodIn_of _ (by decide +kernel)) ggX5_goes_X5_isKing
theorem dX5_goes_0 : decode cX5_goes 0 = .ok (.iload_n 0, 1) := by decide +kernel
theorem dX5_goes_1 : decode cX5_goes 1 = .ok (.invokestatic 73, 3) := by decide +kernel
theorem dX5_goes_4 : decode cX5_goes 4 = .ok (.ifCond .ne 26, 3) := by decide +kernel
theorem dX5_goes_7 : decode cX5_goes 7 = .ok (.iload_n 0, 1) := by decide +kernel
theorem dX5_goes_8 : decode cX5_goes 8 = .ok (.iconst 1, 1) := by decide +kernel
theorem dX5_goes_9 : decode cX5_goes 9 = .ok (.if_icmp .ne 7, 3) := by decide +kernel
theorem dX5_goes_12 : decode cX5_goes 12 = .ok (.iconst 1, 1) := by decide +kernel
theorem dX5_goes_13 : decode cX5_goes 13 = .ok (.goto 4, 3) := by decide +kernel
theorem dX5_goes_16 : decode cX5_goes 16 = .ok (.iconst 0, 1) := by decide +kernel
theorem dX5_goes_17 : decode cX5_goes 17 = .ok (.iload_n 1, 1) := by decide +kernel
theorem dX5_goes_18 : decode cX5_goes 18 = .ok (.iconst 2, 1) := by decide +kernel
theorem dX5_goes_19 : decode cX5_goes 19 = .ok (.if_icmp .ge 7, 3) := by decide +kernel
theorem dX5_goes_22 : decode cX5_goes 22 = .ok (.iconst 1, 1) := by decide +kernel
theorem dX5_goes_23 : decode cX5_goes 23 = .ok (.goto 4, 3) := by decide +kernel
theorem dX5_goes_26 : decode cX5_goes 26 = .ok (.iconst 0, 1) := by decide +kernel
theorem dX5_goes_27 : decode cX5_goes 27 = .ok (.if_icmp .ne 7, 3) := by decide +kernel
theorem dX5_goes_30 : decode cX5_goes 30 = .ok (.iconst 1, 1) := by decide +kernel
theorem dX5_goes_31 : decode cX5_goes 31 = .ok (.goto 4, 3) := by decide +kernel
theorem dX5_goes_34 : decode cX5_goes 34 = .ok (.iconst 0, 1) := by decide +kernel
theorem dX5_goes_35 : decode cX5_goes 35 = .ok (.ireturn, 1) := by decide +kernel
theorem dX5_crowning_0 : decode cX5_crowning 0 = .ok (.iload_n 0, 1) := by decide +kernel
theorem dX5_crowning_1 : decode cX5_crowning 1 = .ok (.ifCond .ne 7, 3) := by decide +kernel
theorem dX5_crowning_4 : decode cX5_crowning 4 = .ok (.iconst 5, 1) := by decide +kernel
theorem dX5_crowning_5 : decode cX5_crowning 5 = .ok (.goto 4, 3) := by decide +kernel
theorem dX5_crowning_8 : decode cX5_crowning 8 = .ok (.iconst 0, 1) := by decide +kernel
theorem dX5_crowning_9 : decode cX5_crowning 9 = .ok (.ireturn, 1) := by decide +kernel
theorem dX5_note_0 : decode cX5_note 0 = .ok (.ldc 77, 2) := by decide +kernel
theorem dX5_note_2 : decode cX5_note 2 = .ok (.bipush 18, 2) := by decide +kernel
theorem dX5_note_4 : decode cX5_note 4 = .ok (.iload_n 2, 1) := by decide +kernel
theorem dX5_note_5 : decode cX5_note 5 = .ok (.imul, 1) := by decide +kernel
theorem dX5_note_6 : decode cX5_note 6 = .ok (.iload_n 3, 1) := by decide +kernel
theorem dX5_note_7 : decode cX5_note 7 = .ok (.iadd, 1) := by decide +kernel
theorem dX5_note_8 : decode cX5_note 8 = .ok (.imul, 1) := by decide +kernel
theorem dX5_note_9 : decode cX5_note 9 = .ok (.iload 4, 2) := by decide +kernel
theorem dX5_note_11 : decode cX5_note 11 = .ok (.iadd, 1) := by decide +kernel
theorem dX5_note_12 : decode cX5_note 12 = .ok (.istore 5, 2) := by decide +kernel
theorem dX5_note_14 : decode cX5_note 14 = .ok (.bipush 80, 2) := by decide +kernel
theorem dX5_note_16 : decode cX5_note 16 = .ok (.iload_n 1, 1) := by decide +kernel
theorem dX5_note_17 : decode cX5_note 17 = .ok (.imul, 1) := by decide +kernel
theorem dX5_note_18 : decode cX5_note 18 = .ok (.istore 6, 2) := by decide +kernel
theorem dX5_note_20 : decode cX5_note 20 = .ok (.iload 6, 2) := by decide +kernel
theorem dX5_note_22 : decode cX5_note 22 = .ok (.aload_n 0, 1) := by decide +kernel
theorem dX5_note_23 : decode cX5_note 23 = .ok (.getfield 19, 3) := by decide +kernel
theorem dX5_note_26 : decode cX5_note 26 = .ok (.iload_n 1, 1) := by decide +kernel
theorem dX5_note_27 : decode cX5_note 27 = .ok (.iaload, 1) := by decide +kernel
theorem dX5_note_28 : decode cX5_note 28 = .ok (.iadd, 1) := by decide +kernel
theorem dX5_note_29 : decode cX5_note 29 = .ok (.istore 7, 2) := by decide +kernel
theorem dX5_note_31 : decode cX5_note 31 = .ok (.iload 6, 2) := by decide +kernel
theorem dX5_note_33 : decode cX5_note 33 = .ok (.iload 7, 2) := by decide +kernel
theorem dX5_note_35 : decode cX5_note 35 = .ok (.if_icmp .ge 21, 3) := by decide +kernel
theorem dX5_note_38 : decode cX5_note 38 = .ok (.aload_n 0, 1) := by decide +kernel
theorem dX5_note_39 : decode cX5_note 39 = .ok (.getfield 16, 3) := by decide +kernel
theorem dX5_note_42 : decode cX5_note 42 = .ok (.iload 6, 2) := by decide +kernel
theorem dX5_note_44 : decode cX5_note 44 = .ok (.iaload, 1) := by decide +kernel
theorem dX5_note_45 : decode cX5_note 45 = .ok (.iload 5, 2) := by decide +kernel
theorem dX5_note_47 : decode cX5_note 47 = .ok (.if_icmp .ge 9, 3) := by decide +kernel
theorem dX5_note_50 : decode cX5_note 50 = .ok (.iinc 6 1, 3) := by decide +kernel
theorem dX5_note_53 : decode cX5_note 53 = .ok (.goto (-22), 3) := by decide +kernel
theorem dX5_note_56 : decode cX5_note 56 = .ok (.iload 6, 2) := by decide +kernel
theorem dX5_note_58 : decode cX5_note 58 = .ok (.iload 7, 2) := by decide +kernel
theorem dX5_note_60 : decode cX5_note 60 = .ok (.if_icmp .ge 16, 3) := by decide +kernel
theorem dX5_note_63 : decode cX5_note 63 = .ok (.aload_n 0, 1) := by decide +kernel
theorem dX5_note_64 : decode cX5_note 64 = .ok (.getfield 16, 3) := by decide +kernel
theorem dX5_note_67 : decode cX5_note 67 = .ok (.iload 6, 2) := by decide +kernel
theorem dX5_note_69 : decode cX5_note 69 = .ok (.iaload, 1) := by decide +kernel
theorem dX5_note_70 : decode cX5_note 70 = .ok (.iload 5, 2) := by decide +kernel
theorem dX5_note_72 : decode cX5_note 72 = .ok (.if_icmp .ne 4, 3) := by decide +kernel
theorem dX5_note_75 : decode cX5_note 75 = .ok (.return_, 1) := by decide +kernel
theorem dX5_note_76 : decode cX5_note 76 = .ok (.iload 7, 2) := by decide +kernel
theorem dX5_note_78 : decode cX5_note 78 = .ok (.istore 8, 2) := by decide +kernel
theorem dX5_note_80 : decode cX5_note 80 = .ok (.iload 8, 2) := by decide +kernel
theorem dX5_note_82 : decode cX5_note 82 = .ok (.iload 6, 2) := by decide +kernel
theorem dX5_note_84 : decode cX5_note 84 = .ok (.if_icmp .le 25, 3) := by decide +kernel
theorem dX5_note_87 : decode cX5_note 87 = .ok (.aload_n 0, 1) := by decide +kernel
theorem dX5_note_88 : decode cX5_note 88 = .ok (.getfield 16, 3) := by decide +kernel
theorem dX5_note_91 : decode cX5_note 91 = .ok (.iload 8, 2) := by decide +kernel
theorem dX5_note_93 : decode cX5_note 93 = .ok (.aload_n 0, 1) := by decide +kernel
theorem dX5_note_94 : decode cX5_note 94 = .ok (.getfield 16, 3) := by decide +kernel
theorem dX5_note_97 : decode cX5_note 97 = .ok (.iload 8, 2) := by decide +kernel
theorem dX5_note_99 : decode cX5_note 99 = .ok (.iconst 1, 1) := by decide +kernel
theorem dX5_note_100 : decode cX5_note 100 = .ok (.isub, 1) := by decide +kernel
theorem dX5_note_101 : decode cX5_note 101 = .ok (.iaload, 1) := by decide +kernel
theorem dX5_note_102 : decode cX5_note 102 = .ok (.iastore, 1) := by decide +kernel
theorem dX5_note_103 : decode cX5_note 103 = .ok (.iinc 8 (-1), 3) := by decide +kernel
theorem dX5_note_106 : decode cX5_note 106 = .ok (.goto (-26), 3) := by decide +kernel
theorem dX5_note_109 : decode cX5_note 109 = .ok (.aload_n 0, 1) := by decide +kernel
theorem dX5_note_110 : decode cX5_note 110 = .ok (.getfield 16, 3) := by decide +kernel
theorem dX5_note_113 : decode cX5_note 113 = .ok (.iload 6, 2) := by decide +kernel
theorem dX5_note_115 : decode cX5_note 115 = .ok (.iload 5, 2) := by decide +kernel
theorem dX5_note_117 : decode cX5_note 117 = .ok (.iastore, 1) := by decide +kernel
theorem dX5_note_118 : decode cX5_note 118 = .ok (.aload_n 0, 1) := by decide +kernel
theorem dX5_note_119 : decode cX5_note 119 = .ok (.getfield 19, 3) := by decide +kernel
theorem dX5_note_122 : decode cX5_note 122 = .ok (.iload_n 1, 1) := by decide +kernel
theorem dX5_note_123 : decode cX5_note 123 = .ok (.dup2, 1) := by decide +kernel
theorem dX5_note_124 : decode cX5_note 124 = .ok (.iaload, 1) := by decide +kernel
theorem dX5_note_125 : decode cX5_note 125 = .ok (.iconst 1, 1) := by decide +kernel
theorem dX5_note_126 : decode cX5_note 126 = .ok (.iadd, 1) := by decide +kernel
theorem dX5_note_127 : decode cX5_note 127 = .ok (.iastore, 1) := by decide +kernel
theorem dX5_note_128 : decode cX5_note 128 = .ok (.return_, 1) := by decide +kernel
set_option maxRecDepth 20000 in
set_option maxRecDepth 100000 in
theorem ggX5_jumps_X5_note : GoodIn wsX5_jumps wsX5_note := goodIn_r _ [12, 13, 14, 15, 36, 37, 38, 39, 40, 41, 42, 43, 44, 45, 46, 47, 48, 49, 50, 51, 52, 53, 54, 55] (by rfl) (by decide +kernel)
set_option maxRecDepth 20000 in
theorem gX5_jumps_X5_note : GoodIn wsX5_jumps (wsV RX5 78 RX5 yX5_note wsX5_note) := goodIn_app (goodIn_of _ (by decide +kernel)) ggX5_jumps_X5_note
set_option maxRecDepth 20000 in
set_option maxRecDepth 100000 in
theorem ggX5_jumps_X5_goes : GoodIn wsX5_jumps wsX5_goes := goodIn_r _ [18, 19, 20, 11, 21] (by rfl) (by decide +kernel)
set_option maxRecDepth 20000 in
theorem gX5_jumps_X5_goes : GoodIn wsX5_jumps (va_wsS RX5 82 yX5_goes wsX5_goes) := goodIn_app (goodIn_of _ (by decide +kernel)) ggX5_jumps_X5_goes
set_option maxRecDepth 20000 in
set_option maxRecDepth 100000 in
theorem ggX5_jumps_X5_leap : GoodIn wsX5_jumps wsX5_leap := goodIn_r _ [25, 6, 7, 1, 26, 27, 28, 11, 29, 36, 37, 38, 39, 40, 41, 42, 43, 44, 45, 46, 47, 48, 49, 50, 51, 52, 53, 54, 55] (by rfl) (by decide +kernel)
set_option maxRecDepth 20000 in
theorem gX5_jumps_X5_leap : GoodIn wsX5_jumps (wsV RX5 86 RX5 yX5_leap wsX5_leap) := goodIn_app (goodIn_of _ (by decide +kernel)) ggX5_jumps_X5_leap
set_option maxRecDepth 20000 in
set_option maxRecDepth 100000 in
theorem ggX5_jumps_X5_isKing : GoodIn wsX5_jumps wsX5_isKing := goodIn_r _ [21] (by rfl) (by decide +kernel)
set_option maxRecDepth 20000 in
theorem gX5_jumps_X5_isKing : GoodIn wsX5_jumps (va_wsS RX5 73 yX5_isKing wsX5_isKing) := goodIn_app (goodIn_of _ (by decide +kernel)) ggX5_jumps_X5_isKing
set_option maxRecDepth 20000 in
set_option maxRecDepth 100000 in
theorem ggX5_jumps_X5_rowOf : GoodIn wsX5_jumps wsX5_rowOf := goodIn_r _ [32] (by rfl) (by decide +kernel)
set_option maxRecDepth 20000 in
theorem gX5_jumps_X5_rowOf : GoodIn wsX5_jumps (va_wsS RX5 69 yX5_rowOf wsX5_rowOf) := goodIn_app (goodIn_of _ (by decide +kernel)) ggX5_jumps_X5_rowOf
set_option maxRecDepth 20000 in
set_option maxRecDepth 100000 in
theorem ggX5_jumps_X5_sideOf : GoodIn wsX5_jumps wsX5_sideOf := goodIn_r _ [29] (by rfl) (by decide +kernel)
set_option maxRecDepth 20000 in
theorem gX5_jumps_X5_sideOf : GoodIn wsX5_jumps (va_wsS RX5 90 yX5_sideOf wsX5_sideOf) := goodIn_app (goodIn_of _ (by decide +kernel)) ggX5_jumps_X5_sideOf
set_option maxRecDepth 20000 in
set_option maxRecDepth 100000 in
theorem ggX5_jumps_X5_crowning : GoodIn wsX5_jumps wsX5_crowning := goodIn_r _ [35] (by rfl) (by decide +kernel)
set_option maxRecDepth 20000 in
theorem gX5_jumps_X5_crowning : GoodIn wsX5_jumps (va_wsS RX5 93 yX5_crowning wsX5_crowning) := goodIn_app (goodIn_of _ (by decide +kernel)) ggX5_jumps_X5_crowning
theorem dX5_jumps_0 : decode cX5_jumps 0 = .ok (.aload_n 0, 1) := by decide +kernel
theorem dX5_jumps_1 : decode cX5_jumps 1 = .ok (.getfield 7, 3) := by decide +kernel
theorem dX5_jumps_4 : decode cX5_jumps 4 = .ok (.bipush 18, 2) := by decide +kernel
theorem dX5_jumps_6 : decode cX5_jumps 6 = .ok (.iload_n 1, 1) := by decide +kernel
theorem dX5_jumps_7 : decode cX5_jumps 7 = .ok (.imul, 1) := by decide +kernel
theorem dX5_jumps_8 : decode cX5_jumps 8 = .ok (.iload_n 2, 1) := by decide +kernel
theorem dX5_jumps_9 : decode cX5_jumps 9 = .ok (.iadd, 1) := by decide +kernel
theorem dX5_jumps_10 : decode cX5_jumps 10 = .ok (.iaload, 1) := by decide +kernel
theorem dX5_jumps_11 : decode cX5_jumps 11 = .ok (.istore_n 3, 1) := by decide +kernel
theorem dX5_jumps_12 : decode cX5_jumps 12 = .ok (.iconst 0, 1) := by decide +kernel
theorem dX5_jumps_13 : decode cX5_jumps 13 = .ok (.istore 4, 2) := by decide +kernel
theorem dX5_jumps_15 : decode cX5_jumps 15 = .ok (.aload_n 0, 1) := by decide +kernel
theorem dX5_jumps_16 : decode cX5_jumps 16 = .ok (.getfield 37, 3) := by decide +kernel
theorem dX5_jumps_19 : decode cX5_jumps 19 = .ok (.iconst 0, 1) := by decide +kernel
theorem dX5_jumps_20 : decode cX5_jumps 20 = .ok (.iload_n 2, 1) := by decide +kernel
theorem dX5_jumps_21 : decode cX5_jumps 21 = .ok (.iastore, 1) := by decide +kernel
theorem dX5_jumps_22 : decode cX5_jumps 22 = .ok (.aload_n 0, 1) := by decide +kernel
theorem dX5_jumps_23 : decode cX5_jumps 23 = .ok (.getfield 40, 3) := by decide +kernel
theorem dX5_jumps_26 : decode cX5_jumps 26 = .ok (.iconst 0, 1) := by decide +kernel
theorem dX5_jumps_27 : decode cX5_jumps 27 = .ok (.iconst 0, 1) := by decide +kernel
theorem dX5_jumps_28 : decode cX5_jumps 28 = .ok (.iastore, 1) := by decide +kernel
theorem dX5_jumps_29 : decode cX5_jumps 29 = .ok (.aload_n 0, 1) := by decide +kernel
theorem dX5_jumps_30 : decode cX5_jumps 30 = .ok (.getfield 43, 3) := by decide +kernel
theorem dX5_jumps_33 : decode cX5_jumps 33 = .ok (.iconst 0, 1) := by decide +kernel
theorem dX5_jumps_34 : decode cX5_jumps 34 = .ok (.iconst 0, 1) := by decide +kernel
theorem dX5_jumps_35 : decode cX5_jumps 35 = .ok (.iastore, 1) := by decide +kernel
theorem dX5_jumps_36 : decode cX5_jumps 36 = .ok (.aload_n 0, 1) := by decide +kernel
theorem dX5_jumps_37 : decode cX5_jumps 37 = .ok (.getfield 46, 3) := by decide +kernel
theorem dX5_jumps_40 : decode cX5_jumps 40 = .ok (.iconst 0, 1) := by decide +kernel
theorem dX5_jumps_41 : decode cX5_jumps 41 = .ok (.iconst 0, 1) := by decide +kernel
theorem dX5_jumps_42 : decode cX5_jumps 42 = .ok (.bastore, 1) := by decide +kernel
theorem dX5_jumps_43 : decode cX5_jumps 43 = .ok (.iload 4, 2) := by decide +kernel
theorem dX5_jumps_45 : decode cX5_jumps 45 = .ok (.ifCond .lt 239, 3) := by decide +kernel
theorem dX5_jumps_48 : decode cX5_jumps 48 = .ok (.aload_n 0, 1) := by decide +kernel
theorem dX5_jumps_49 : decode cX5_jumps 49 = .ok (.getfield 43, 3) := by decide +kernel
theorem dX5_jumps_52 : decode cX5_jumps 52 = .ok (.iload 4, 2) := by decide +kernel
theorem dX5_jumps_54 : decode cX5_jumps 54 = .ok (.iaload, 1) := by decide +kernel
theorem dX5_jumps_55 : decode cX5_jumps 55 = .ok (.istore 5, 2) := by decide +kernel
theorem dX5_jumps_57 : decode cX5_jumps 57 = .ok (.aload_n 0, 1) := by decide +kernel
theorem dX5_jumps_58 : decode cX5_jumps 58 = .ok (.getfield 43, 3) := by decide +kernel
theorem dX5_jumps_61 : decode cX5_jumps 61 = .ok (.iload 4, 2) := by decide +kernel
theorem dX5_jumps_63 : decode cX5_jumps 63 = .ok (.dup2, 1) := by decide +kernel
theorem dX5_jumps_64 : decode cX5_jumps 64 = .ok (.iaload, 1) := by decide +kernel
theorem dX5_jumps_65 : decode cX5_jumps 65 = .ok (.iconst 1, 1) := by decide +kernel
theorem dX5_jumps_66 : decode cX5_jumps 66 = .ok (.iadd, 1) := by decide +kernel
theorem dX5_jumps_67 : decode cX5_jumps 67 = .ok (.iastore, 1) := by decide +kernel
theorem dX5_jumps_68 : decode cX5_jumps 68 = .ok (.iload 5, 2) := by decide +kernel
theorem dX5_jumps_70 : decode cX5_jumps 70 = .ok (.iconst 4, 1) := by decide +kernel
theorem dX5_jumps_71 : decode cX5_jumps 71 = .ok (.if_icmp .ne 44, 3) := by decide +kernel
theorem dX5_jumps_74 : decode cX5_jumps 74 = .ok (.iload 4, 2) := by decide +kernel
theorem dX5_jumps_76 : decode cX5_jumps 76 = .ok (.ifCond .le 33, 3) := by decide +kernel
theorem dX5_jumps_79 : decode cX5_jumps 79 = .ok (.aload_n 0, 1) := by decide +kernel
theorem dX5_jumps_80 : decode cX5_jumps 80 = .ok (.getfield 46, 3) := by decide +kernel
theorem dX5_jumps_83 : decode cX5_jumps 83 = .ok (.iload 4, 2) := by decide +kernel
theorem dX5_jumps_85 : decode cX5_jumps 85 = .ok (.baload, 1) := by decide +kernel
theorem dX5_jumps_86 : decode cX5_jumps 86 = .ok (.ifCond .ne 23, 3) := by decide +kernel
theorem dX5_jumps_89 : decode cX5_jumps 89 = .ok (.aload_n 0, 1) := by decide +kernel
theorem dX5_jumps_90 : decode cX5_jumps 90 = .ok (.iload_n 1, 1) := by decide +kernel
theorem dX5_jumps_91 : decode cX5_jumps 91 = .ok (.iload_n 2, 1) := by decide +kernel
theorem dX5_jumps_92 : decode cX5_jumps 92 = .ok (.aload_n 0, 1) := by decide +kernel
theorem dX5_jumps_93 : decode cX5_jumps 93 = .ok (.getfield 37, 3) := by decide +kernel
theorem dX5_jumps_96 : decode cX5_jumps 96 = .ok (.iload 4, 2) := by decide +kernel
theorem dX5_jumps_98 : decode cX5_jumps 98 = .ok (.iaload, 1) := by decide +kernel
theorem dX5_jumps_99 : decode cX5_jumps 99 = .ok (.aload_n 0, 1) := by decide +kernel
theorem dX5_jumps_100 : decode cX5_jumps 100 = .ok (.getfield 40, 3) := by decide +kernel
theorem dX5_jumps_103 : decode cX5_jumps 103 = .ok (.iload 4, 2) := by decide +kernel
theorem dX5_jumps_105 : decode cX5_jumps 105 = .ok (.iaload, 1) := by decide +kernel
theorem dX5_jumps_106 : decode cX5_jumps 106 = .ok (.invokevirtual 78, 3) := by decide +kernel
theorem dX5_jumps_109 : decode cX5_jumps 109 = .ok (.iinc 4 (-1), 3) := by decide +kernel
theorem dX5_jumps_112 : decode cX5_jumps 112 = .ok (.goto 169, 3) := by decide +kernel
theorem dX5_jumps_115 : decode cX5_jumps 115 = .ok (.iload_n 3, 1) := by decide +kernel
theorem dX5_jumps_116 : decode cX5_jumps 116 = .ok (.iload 5, 2) := by decide +kernel
theorem dX5_jumps_118 : decode cX5_jumps 118 = .ok (.invokestatic 82, 3) := by decide +kernel
theorem dX5_jumps_121 : decode cX5_jumps 121 = .ok (.ifCond .eq 160, 3) := by decide +kernel
theorem dX5_jumps_124 : decode cX5_jumps 124 = .ok (.aload_n 0, 1) := by decide +kernel
theorem dX5_jumps_125 : decode cX5_jumps 125 = .ok (.iload_n 1, 1) := by decide +kernel
theorem dX5_jumps_126 : decode cX5_jumps 126 = .ok (.iload_n 2, 1) := by decide +kernel
theorem dX5_jumps_127 : decode cX5_jumps 127 = .ok (.aload_n 0, 1) := by decide +kernel
theorem dX5_jumps_128 : decode cX5_jumps 128 = .ok (.getfield 37, 3) := by decide +kernel
theorem dX5_jumps_131 : decode cX5_jumps 131 = .ok (.iload 4, 2) := by decide +kernel
theorem dX5_jumps_133 : decode cX5_jumps 133 = .ok (.iaload, 1) := by decide +kernel
theorem dX5_jumps_134 : decode cX5_jumps 134 = .ok (.aload_n 0, 1) := by decide +kernel
theorem dX5_jumps_135 : decode cX5_jumps 135 = .ok (.getfield 40, 3) := by decide +kernel
theorem dX5_jumps_138 : decode cX5_jumps 138 = .ok (.iload 4, 2) := by decide +kernel
theorem dX5_jumps_140 : decode cX5_jumps 140 = .ok (.iaload, 1) := by decide +kernel
theorem dX5_jumps_141 : decode cX5_jumps 141 = .ok (.iload 5, 2) := by decide +kernel
theorem dX5_jumps_143 : decode cX5_jumps 143 = .ok (.invokevirtual 86, 3) := by decide +kernel
theorem dX5_jumps_146 : decode cX5_jumps 146 = .ok (.ifCond .eq 135, 3) := by decide +kernel
theorem dX5_jumps_149 : decode cX5_jumps 149 = .ok (.aload_n 0, 1) := by decide +kernel
theorem dX5_jumps_150 : decode cX5_jumps 150 = .ok (.getfield 46, 3) := by decide +kernel
theorem dX5_jumps_153 : decode cX5_jumps 153 = .ok (.iload 4, 2) := by decide +kernel
theorem dX5_jumps_155 : decode cX5_jumps 155 = .ok (.iconst 1, 1) := by decide +kernel
theorem dX5_jumps_156 : decode cX5_jumps 156 = .ok (.bastore, 1) := by decide +kernel
theorem dX5_jumps_157 : decode cX5_jumps 157 = .ok (.aload_n 0, 1) := by decide +kernel
theorem dX5_jumps_158 : decode cX5_jumps 158 = .ok (.getfield 31, 3) := by decide +kernel
theorem dX5_jumps_161 : decode cX5_jumps 161 = .ok (.iconst 4, 1) := by decide +kernel
theorem dX5_jumps_162 : decode cX5_jumps 162 = .ok (.aload_n 0, 1) := by decide +kernel
theorem dX5_jumps_163 : decode cX5_jumps 163 = .ok (.getfield 37, 3) := by decide +kernel
theorem dX5_jumps_166 : decode cX5_jumps 166 = .ok (.iload 4, 2) := by decide +kernel
theorem dX5_jumps_168 : decode cX5_jumps 168 = .ok (.iaload, 1) := by decide +kernel
theorem dX5_jumps_169 : decode cX5_jumps 169 = .ok (.imul, 1) := by decide +kernel
theorem dX5_jumps_170 : decode cX5_jumps 170 = .ok (.iload 5, 2) := by decide +kernel
theorem dX5_jumps_172 : decode cX5_jumps 172 = .ok (.iadd, 1) := by decide +kernel
theorem dX5_jumps_173 : decode cX5_jumps 173 = .ok (.iaload, 1) := by decide +kernel
theorem dX5_jumps_174 : decode cX5_jumps 174 = .ok (.istore 6, 2) := by decide +kernel
theorem dX5_jumps_176 : decode cX5_jumps 176 = .ok (.aload_n 0, 1) := by decide +kernel
theorem dX5_jumps_177 : decode cX5_jumps 177 = .ok (.getfield 34, 3) := by decide +kernel
theorem dX5_jumps_180 : decode cX5_jumps 180 = .ok (.iconst 4, 1) := by decide +kernel
theorem dX5_jumps_181 : decode cX5_jumps 181 = .ok (.aload_n 0, 1) := by decide +kernel
theorem dX5_jumps_182 : decode cX5_jumps 182 = .ok (.getfield 37, 3) := by decide +kernel
theorem dX5_jumps_185 : decode cX5_jumps 185 = .ok (.iload 4, 2) := by decide +kernel
theorem dX5_jumps_187 : decode cX5_jumps 187 = .ok (.iaload, 1) := by decide +kernel
theorem dX5_jumps_188 : decode cX5_jumps 188 = .ok (.imul, 1) := by decide +kernel
theorem dX5_jumps_189 : decode cX5_jumps 189 = .ok (.iload 5, 2) := by decide +kernel
theorem dX5_jumps_191 : decode cX5_jumps 191 = .ok (.iadd, 1) := by decide +kernel
theorem dX5_jumps_192 : decode cX5_jumps 192 = .ok (.iaload, 1) := by decide +kernel
theorem dX5_jumps_193 : decode cX5_jumps 193 = .ok (.istore 7, 2) := by decide +kernel
theorem dX5_jumps_195 : decode cX5_jumps 195 = .ok (.aload_n 0, 1) := by decide +kernel
theorem dX5_jumps_196 : decode cX5_jumps 196 = .ok (.getfield 40, 3) := by decide +kernel
theorem dX5_jumps_199 : decode cX5_jumps 199 = .ok (.iload 4, 2) := by decide +kernel
theorem dX5_jumps_201 : decode cX5_jumps 201 = .ok (.iaload, 1) := by decide +kernel
theorem dX5_jumps_202 : decode cX5_jumps 202 = .ok (.iconst 1, 1) := by decide +kernel
theorem dX5_jumps_203 : decode cX5_jumps 203 = .ok (.iload 6, 2) := by decide +kernel
theorem dX5_jumps_205 : decode cX5_jumps 205 = .ok (.ishl, 1) := by decide +kernel
theorem dX5_jumps_206 : decode cX5_jumps 206 = .ok (.iadd, 1) := by decide +kernel
theorem dX5_jumps_207 : decode cX5_jumps 207 = .ok (.istore 8, 2) := by decide +kernel
theorem dX5_jumps_209 : decode cX5_jumps 209 = .ok (.iload_n 3, 1) := by decide +kernel
theorem dX5_jumps_210 : decode cX5_jumps 210 = .ok (.invokestatic 73, 3) := by decide +kernel
theorem dX5_jumps_213 : decode cX5_jumps 213 = .ok (.ifCond .ne 31, 3) := by decide +kernel
theorem dX5_jumps_216 : decode cX5_jumps 216 = .ok (.iload 7, 2) := by decide +kernel
theorem dX5_jumps_218 : decode cX5_jumps 218 = .ok (.invokestatic 69, 3) := by decide +kernel
theorem dX5_jumps_221 : decode cX5_jumps 221 = .ok (.iload_n 3, 1) := by decide +kernel
theorem dX5_jumps_222 : decode cX5_jumps 222 = .ok (.invokestatic 90, 3) := by decide +kernel
theorem dX5_jumps_225 : decode cX5_jumps 225 = .ok (.invokestatic 93, 3) := by decide +kernel
theorem dX5_jumps_228 : decode cX5_jumps 228 = .ok (.if_icmp .ne 16, 3) := by decide +kernel
theorem dX5_jumps_231 : decode cX5_jumps 231 = .ok (.aload_n 0, 1) := by decide +kernel
theorem dX5_jumps_232 : decode cX5_jumps 232 = .ok (.iload_n 1, 1) := by decide +kernel
theorem dX5_jumps_233 : decode cX5_jumps 233 = .ok (.iload_n 2, 1) := by decide +kernel
theorem dX5_jumps_234 : decode cX5_jumps 234 = .ok (.iload 7, 2) := by decide +kernel
theorem dX5_jumps_236 : decode cX5_jumps 236 = .ok (.iload 8, 2) := by decide +kernel
theorem dX5_jumps_238 : decode cX5_jumps 238 = .ok (.invokevirtual 78, 3) := by decide +kernel
theorem dX5_jumps_241 : decode cX5_jumps 241 = .ok (.goto 40, 3) := by decide +kernel
theorem dX5_jumps_244 : decode cX5_jumps 244 = .ok (.iinc 4 1, 3) := by decide +kernel
theorem dX5_jumps_247 : decode cX5_jumps 247 = .ok (.aload_n 0, 1) := by decide +kernel
theorem dX5_jumps_248 : decode cX5_jumps 248 = .ok (.getfield 37, 3) := by decide +kernel
theorem dX5_jumps_251 : decode cX5_jumps 251 = .ok (.iload 4, 2) := by decide +kernel
theorem dX5_jumps_253 : decode cX5_jumps 253 = .ok (.iload 7, 2) := by decide +kernel
theorem dX5_jumps_255 : decode cX5_jumps 255 = .ok (.iastore, 1) := by decide +kernel
theorem dX5_jumps_256 : decode cX5_jumps 256 = .ok (.aload_n 0, 1) := by decide +kernel
theorem dX5_jumps_257 : decode cX5_jumps 257 = .ok (.getfield 40, 3) := by decide +kernel
theorem dX5_jumps_260 : decode cX5_jumps 260 = .ok (.iload 4, 2) := by decide +kernel
theorem dX5_jumps_262 : decode cX5_jumps 262 = .ok (.iload 8, 2) := by decide +kernel
theorem dX5_jumps_264 : decode cX5_jumps 264 = .ok (.iastore, 1) := by decide +kernel
theorem dX5_jumps_265 : decode cX5_jumps 265 = .ok (.aload_n 0, 1) := by decide +kernel
theorem dX5_jumps_266 : decode cX5_jumps 266 = .ok (.getfield 43, 3) := by decide +kernel
theorem dX5_jumps_269 : decode cX5_jumps 269 = .ok (.iload 4, 2) := by decide +kernel
theorem dX5_jumps_271 : decode cX5_jumps 271 = .ok (.iconst 0, 1) := by decide +kernel
theorem dX5_jumps_272 : decode cX5_jumps 272 = .ok (.iastore, 1) := by decide +kernel
theorem dX5_jumps_273 : decode cX5_jumps 273 = .ok (.aload_n 0, 1) := by decide +kernel
theorem dX5_jumps_274 : decode cX5_jumps 274 = .ok (.getfield 46, 3) := by decide +kernel
theorem dX5_jumps_277 : decode cX5_jumps 277 = .ok (.iload 4, 2) := by decide +kernel
theorem dX5_jumps_279 : decode cX5_jumps 279 = .ok (.iconst 0, 1) := by decide +kernel
theorem dX5_jumps_280 : decode cX5_jumps 280 = .ok (.bastore, 1) := by decide +kernel
theorem dX5_jumps_281 : decode cX5_jumps 281 = .ok (.goto (-238), 3) := by decide +kernel
theorem dX5_jumps_284 : decode cX5_jumps 284 = .ok (.return_, 1) := by decide +kernel
set_option maxRecDepth 20000 in
set_option maxRecDepth 100000 in
theorem ggX5_leap_X5_sideOf : GoodIn wsX5_leap wsX5_sideOf := goodIn_r _ [8] (by rfl) (by decide +kernel)
set_option maxRecDepth 20000 in
theorem gX5_leap_X5_sideOf : GoodIn wsX5_leap (va_wsS RX5 90 yX5_sideOf wsX5_sideOf) := goodIn_app (goodIn_of _ (by decide +kernel)) ggX5_leap_X5_sideOf
theorem dX5_leap_0 : decode cX5_leap 0 = .ok (.aload_n 0, 1) := by decide +kernel
theorem dX5_leap_1 : decode cX5_leap 1 = .ok (.getfield 31, 3) := by decide +kernel
theorem dX5_leap_4 : decode cX5_leap 4 = .ok (.iconst 4, 1) := by decide +kernel
theorem dX5_leap_5 : decode cX5_leap 5 = .ok (.iload_n 3, 1) := by decide +kernel
theorem dX5_leap_6 : decode cX5_leap 6 = .ok (.imul, 1) := by decide +kernel
theorem dX5_leap_7 : decode cX5_leap 7 = .ok (.iload 5, 2) := by decide +kernel
theorem dX5_leap_9 : decode cX5_leap 9 = .ok (.iadd, 1) := by decide +kernel
theorem dX5_leap_10 : decode cX5_leap 10 = .ok (.iaload, 1) := by decide +kernel
theorem dX5_leap_11 : decode cX5_leap 11 = .ok (.istore 6, 2) := by decide +kernel
theorem dX5_leap_13 : decode cX5_leap 13 = .ok (.aload_n 0, 1) := by decide +kernel
theorem dX5_leap_14 : decode cX5_leap 14 = .ok (.getfield 34, 3) := by decide +kernel
theorem dX5_leap_17 : decode cX5_leap 17 = .ok (.iconst 4, 1) := by decide +kernel
theorem dX5_leap_18 : decode cX5_leap 18 = .ok (.iload_n 3, 1) := by decide +kernel
theorem dX5_leap_19 : decode cX5_leap 19 = .ok (.imul, 1) := by decide +kernel
theorem dX5_leap_20 : decode cX5_leap 20 = .ok (.iload 5, 2) := by decide +kernel
theorem dX5_leap_22 : decode cX5_leap 22 = .ok (.iadd, 1) := by decide +kernel
theorem dX5_leap_23 : decode cX5_leap 23 = .ok (.iaload, 1) := by decide +kernel
theorem dX5_leap_24 : decode cX5_leap 24 = .ok (.istore 7, 2) := by decide +kernel
theorem dX5_leap_26 : decode cX5_leap 26 = .ok (.iload 7, 2) := by decide +kernel
theorem dX5_leap_28 : decode cX5_leap 28 = .ok (.ifCond .lt 14, 3) := by decide +kernel
theorem dX5_leap_31 : decode cX5_leap 31 = .ok (.iload 4, 2) := by decide +kernel
theorem dX5_leap_33 : decode cX5_leap 33 = .ok (.iload 6, 2) := by decide +kernel
theorem dX5_leap_35 : decode cX5_leap 35 = .ok (.ishr, 1) := by decide +kernel
theorem dX5_leap_36 : decode cX5_leap 36 = .ok (.iconst 1, 1) := by decide +kernel
theorem dX5_leap_37 : decode cX5_leap 37 = .ok (.iand, 1) := by decide +kernel
theorem dX5_leap_38 : decode cX5_leap 38 = .ok (.iconst 1, 1) := by decide +kernel
theorem dX5_leap_39 : decode cX5_leap 39 = .ok (.if_icmp .ne 5, 3) := by decide +kernel
theorem dX5_leap_42 : decode cX5_leap 42 = .ok (.iconst 0, 1) := by decide +kernel
theorem dX5_leap_43 : decode cX5_leap 43 = .ok (.ireturn, 1) := by decide +kernel
theorem dX5_leap_44 : decode cX5_leap 44 = .ok (.aload_n 0, 1) := by decide +kernel
theorem dX5_leap_45 : decode cX5_leap 45 = .ok (.getfield 7, 3) := by decide +kernel
theorem dX5_leap_48 : decode cX5_leap 48 = .ok (.bipush 18, 2) := by decide +kernel
theorem dX5_leap_50 : decode cX5_leap 50 = .ok (.iload_n 1, 1) := by decide +kernel
theorem dX5_leap_51 : decode cX5_leap 51 = .ok (.imul, 1) := by decide +kernel
theorem dX5_leap_52 : decode cX5_leap 52 = .ok (.iload 6, 2) := by decide +kernel
theorem dX5_leap_54 : decode cX5_leap 54 = .ok (.iadd, 1) := by decide +kernel
theorem dX5_leap_55 : decode cX5_leap 55 = .ok (.iaload, 1) := by decide +kernel
theorem dX5_leap_56 : decode cX5_leap 56 = .ok (.invokestatic 90, 3) := by decide +kernel
theorem dX5_leap_59 : decode cX5_leap 59 = .ok (.iconst 1, 1) := by decide +kernel
theorem dX5_leap_60 : decode cX5_leap 60 = .ok (.aload_n 0, 1) := by decide +kernel
theorem dX5_leap_61 : decode cX5_leap 61 = .ok (.getfield 13, 3) := by decide +kernel
theorem dX5_leap_64 : decode cX5_leap 64 = .ok (.iload_n 1, 1) := by decide +kernel
theorem dX5_leap_65 : decode cX5_leap 65 = .ok (.iaload, 1) := by decide +kernel
theorem dX5_leap_66 : decode cX5_leap 66 = .ok (.isub, 1) := by decide +kernel
theorem dX5_leap_67 : decode cX5_leap 67 = .ok (.if_icmp .ne 28, 3) := by decide +kernel
theorem dX5_leap_70 : decode cX5_leap 70 = .ok (.aload_n 0, 1) := by decide +kernel
theorem dX5_leap_71 : decode cX5_leap 71 = .ok (.getfield 7, 3) := by decide +kernel
theorem dX5_leap_74 : decode cX5_leap 74 = .ok (.bipush 18, 2) := by decide +kernel
theorem dX5_leap_76 : decode cX5_leap 76 = .ok (.iload_n 1, 1) := by decide +kernel
theorem dX5_leap_77 : decode cX5_leap 77 = .ok (.imul, 1) := by decide +kernel
theorem dX5_leap_78 : decode cX5_leap 78 = .ok (.iload 7, 2) := by decide +kernel
theorem dX5_leap_80 : decode cX5_leap 80 = .ok (.iadd, 1) := by decide +kernel
theorem dX5_leap_81 : decode cX5_leap 81 = .ok (.iaload, 1) := by decide +kernel
theorem dX5_leap_82 : decode cX5_leap 82 = .ok (.ifCond .eq 9, 3) := by decide +kernel
theorem dX5_leap_85 : decode cX5_leap 85 = .ok (.iload 7, 2) := by decide +kernel
theorem dX5_leap_87 : decode cX5_leap 87 = .ok (.iload_n 2, 1) := by decide +kernel
theorem dX5_leap_88 : decode cX5_leap 88 = .ok (.if_icmp .ne 7, 3) := by decide +kernel
theorem dX5_leap_91 : decode cX5_leap 91 = .ok (.iconst 1, 1) := by decide +kernel
theorem dX5_leap_92 : decode cX5_leap 92 = .ok (.goto 4, 3) := by decide +kernel
theorem dX5_leap_95 : decode cX5_leap 95 = .ok (.iconst 0, 1) := by decide +kernel
theorem dX5_leap_96 : decode cX5_leap 96 = .ok (.ireturn, 1) := by decide +kernel
set_option maxRecDepth 20000 in
set_option maxRecDepth 100000 in
theorem ggX5_steps_X5_goes : GoodIn wsX5_steps wsX5_goes := goodIn_r _ [6, 7, 8, 5, 9] (by rfl) (by decide +kernel)
set_option maxRecDepth 20000 in
theorem gX5_steps_X5_goes : GoodIn wsX5_steps (va_wsS RX5 82 yX5_goes wsX5_goes) := goodIn_app (goodIn_of _ (by decide +kernel)) ggX5_steps_X5_goes
set_option maxRecDepth 20000 in
set_option maxRecDepth 100000 in
theorem ggX5_steps_X5_note : GoodIn wsX5_steps wsX5_note := goodIn_r _ [13, 14, 15, 16, 17, 18, 19, 20, 21, 22, 23, 24, 25, 26, 27, 28, 29, 30, 31, 32, 33, 34, 35, 36] (by rfl) (by decide +kernel)
set_option maxRecDepth 20000 in
theorem gX5_steps_X5_note : GoodIn wsX5_steps (wsV RX5 78 RX5 yX5_note wsX5_note) := goodIn_app (goodIn_of _ (by decide +kernel)) ggX5_steps_X5_note
theorem dX5_steps_0 : decode cX5_steps 0 = .ok (.aload_n 0, 1) := by decide +kernel
theorem dX5_steps_1 : decode cX5_steps 1 = .ok (.getfield 7, 3) := by decide +kernel
theorem dX5_steps_4 : decode cX5_steps 4 = .ok (.bipush 18, 2) := by decide +kernel
theorem dX5_steps_6 : decode cX5_steps 6 = .ok (.iload_n 1, 1) := by decide +kernel
theorem dX5_steps_7 : decode cX5_steps 7 = .ok (.imul, 1) := by decide +kernel
theorem dX5_steps_8 : decode cX5_steps 8 = .ok (.iload_n 2, 1) := by decide +kernel
theorem dX5_steps_9 : decode cX5_steps 9 = .ok (.iadd, 1) := by decide +kernel
theorem dX5_steps_10 : decode cX5_steps 10 = .ok (.iaload, 1) := by decide +kernel
theorem dX5_steps_11 : decode cX5_steps 11 = .ok (.istore_n 3, 1) := by decide +kernel
theorem dX5_steps_12 : decode cX5_steps 12 = .ok (.iconst 0, 1) := by decide +kernel
theorem dX5_steps_13 : decode cX5_steps 13 = .ok (.istore 4, 2) := by decide +kernel
theorem dX5_steps_15 : decode cX5_steps 15 = .ok (.iload 4, 2) := by decide +kernel
theorem dX5_steps_17 : decode cX5_steps 17 = .ok (.iconst 4, 1) := by decide +kernel
theorem dX5_steps_18 : decode cX5_steps 18 = .ok (.if_icmp .ge 60, 3) := by decide +kernel
theorem dX5_steps_21 : decode cX5_steps 21 = .ok (.aload_n 0, 1) := by decide +kernel
theorem dX5_steps_22 : decode cX5_steps 22 = .ok (.getfield 31, 3) := by decide +kernel
theorem dX5_steps_25 : decode cX5_steps 25 = .ok (.iconst 4, 1) := by decide +kernel
theorem dX5_steps_26 : decode cX5_steps 26 = .ok (.iload_n 2, 1) := by decide +kernel
theorem dX5_steps_27 : decode cX5_steps 27 = .ok (.imul, 1) := by decide +kernel
theorem dX5_steps_28 : decode cX5_steps 28 = .ok (.iload 4, 2) := by decide +kernel
theorem dX5_steps_30 : decode cX5_steps 30 = .ok (.iadd, 1) := by decide +kernel
theorem dX5_steps_31 : decode cX5_steps 31 = .ok (.iaload, 1) := by decide +kernel
theorem dX5_steps_32 : decode cX5_steps 32 = .ok (.istore 5, 2) := by decide +kernel
theorem dX5_steps_34 : decode cX5_steps 34 = .ok (.iload 5, 2) := by decide +kernel
theorem dX5_steps_36 : decode cX5_steps 36 = .ok (.ifCond .lt 36, 3) := by decide +kernel
theorem dX5_steps_39 : decode cX5_steps 39 = .ok (.iload_n 3, 1) := by decide +kernel
theorem dX5_steps_40 : decode cX5_steps 40 = .ok (.iload 4, 2) := by decide +kernel
theorem dX5_steps_42 : decode cX5_steps 42 = .ok (.invokestatic 82, 3) := by decide +kernel
theorem dX5_steps_45 : decode cX5_steps 45 = .ok (.ifCond .eq 27, 3) := by decide +kernel
theorem dX5_steps_48 : decode cX5_steps 48 = .ok (.aload_n 0, 1) := by decide +kernel
theorem dX5_steps_49 : decode cX5_steps 49 = .ok (.getfield 7, 3) := by decide +kernel
theorem dX5_steps_52 : decode cX5_steps 52 = .ok (.bipush 18, 2) := by decide +kernel
theorem dX5_steps_54 : decode cX5_steps 54 = .ok (.iload_n 1, 1) := by decide +kernel
theorem dX5_steps_55 : decode cX5_steps 55 = .ok (.imul, 1) := by decide +kernel
theorem dX5_steps_56 : decode cX5_steps 56 = .ok (.iload 5, 2) := by decide +kernel
theorem dX5_steps_58 : decode cX5_steps 58 = .ok (.iadd, 1) := by decide +kernel
theorem dX5_steps_59 : decode cX5_steps 59 = .ok (.iaload, 1) := by decide +kernel
theorem dX5_steps_60 : decode cX5_steps 60 = .ok (.ifCond .ne 12, 3) := by decide +kernel
theorem dX5_steps_63 : decode cX5_steps 63 = .ok (.aload_n 0, 1) := by decide +kernel
theorem dX5_steps_64 : decode cX5_steps 64 = .ok (.iload_n 1, 1) := by decide +kernel
theorem dX5_steps_65 : decode cX5_steps 65 = .ok (.iload_n 2, 1) := by decide +kernel
theorem dX5_steps_66 : decode cX5_steps 66 = .ok (.iload 5, 2) := by decide +kernel
theorem dX5_steps_68 : decode cX5_steps 68 = .ok (.iconst 0, 1) := by decide +kernel
theorem dX5_steps_69 : decode cX5_steps 69 = .ok (.invokevirtual 78, 3) := by decide +kernel
theorem dX5_steps_72 : decode cX5_steps 72 = .ok (.iinc 4 1, 3) := by decide +kernel
theorem dX5_steps_75 : decode cX5_steps 75 = .ok (.goto (-60), 3) := by decide +kernel
theorem dX5_steps_78 : decode cX5_steps 78 = .ok (.return_, 1) := by decide +kernel
set_option maxRecDepth 20000 in
set_option maxRecDepth 100000 in
theorem ggX5_generate_X5_sideOf : GoodIn wsX5_generate wsX5_sideOf := goodIn_r _ [7] (by rfl) (by decide +kernel)
set_option maxRecDepth 20000 in
theorem gX5_generate_X5_sideOf : GoodIn wsX5_generate (va_wsS RX5 90 yX5_sideOf wsX5_sideOf) := goodIn_app (goodIn_of _ (by decide +kernel)) ggX5_generate_X5_sideOf
set_option maxRecDepth 20000 in
set_option maxRecDepth 100000 in
theorem ggX5_generate_X5_jumps : GoodIn wsX5_generate wsX5_jumps := goodIn_r _ [11, 2, 12, 13, 14, 15, 16, 17, 18, 19, 20, 6, 21, 22, 1, 23, 24, 25, 26, 27, 28, 29, 30, 31, 32, 33, 3, 4, 5, 7, 34, 35, 36, 37, 38, 39, 44, 45, 46, 47, 48, 49, 50, 51, 52, 53, 54, 55, 56, 57, 58, 59, 60, 61, 62, 63] (by rfl) (by decide +kernel)
set_option maxRecDepth 20000 in
theorem gX5_generate_X5_jumps : GoodIn wsX5_generate (wsV RX5 96 RX5 yX5_jumps wsX5_jumps) := goodIn_app (goodIn_of _ (by decide +kernel)) ggX5_generate_X5_jumps
set_option maxRecDepth 20000 in
set_option maxRecDepth 100000 in
theorem ggX5_generate_X5_steps : GoodIn wsX5_generate wsX5_steps := goodIn_r _ [43, 2, 16, 24, 25, 6, 26, 27, 28, 29, 18, 19, 20, 21, 22, 1, 23, 44, 45, 46, 47, 48, 49, 50, 51, 52, 53, 54, 55, 56, 57, 58, 59, 60, 61, 62, 63] (by rfl) (by decide +kernel)
set_option maxRecDepth 20000 in
theorem gX5_generate_X5_steps : GoodIn wsX5_generate (wsV RX5 100 RX5 yX5_steps wsX5_steps) := goodIn_app (goodIn_of _ (by decide +kernel)) ggX5_generate_X5_steps
theorem dX5_generate_0 : decode cX5_generate 0 = .ok (.aload_n 0, 1) := by decide +kernel
theorem dX5_generate_1 : decode cX5_generate 1 = .ok (.getfield 19, 3) := by decide +kernel
theorem dX5_generate_4 : decode cX5_generate 4 = .ok (.iload_n 1, 1) := by decide +kernel
theorem dX5_generate_5 : decode cX5_generate 5 = .ok (.iconst 0, 1) := by decide +kernel
theorem dX5_generate_6 : decode cX5_generate 6 = .ok (.iastore, 1) := by decide +kernel
theorem dX5_generate_7 : decode cX5_generate 7 = .ok (.iconst 0, 1) := by decide +kernel
theorem dX5_generate_8 : decode cX5_generate 8 = .ok (.istore_n 2, 1) := by decide +kernel
theorem dX5_generate_9 : decode cX5_generate 9 = .ok (.iload_n 2, 1) := by decide +kernel
theorem dX5_generate_10 : decode cX5_generate 10 = .ok (.bipush 18, 2) := by decide +kernel
theorem dX5_generate_12 : decode cX5_generate 12 = .ok (.if_icmp .ge 38, 3) := by decide +kernel
theorem dX5_generate_15 : decode cX5_generate 15 = .ok (.aload_n 0, 1) := by decide +kernel
theorem dX5_generate_16 : decode cX5_generate 16 = .ok (.getfield 7, 3) := by decide +kernel
theorem dX5_generate_19 : decode cX5_generate 19 = .ok (.bipush 18, 2) := by decide +kernel
theorem dX5_generate_21 : decode cX5_generate 21 = .ok (.iload_n 1, 1) := by decide +kernel
theorem dX5_generate_22 : decode cX5_generate 22 = .ok (.imul, 1) := by decide +kernel
theorem dX5_generate_23 : decode cX5_generate 23 = .ok (.iload_n 2, 1) := by decide +kernel
theorem dX5_generate_24 : decode cX5_generate 24 = .ok (.iadd, 1) := by decide +kernel
theorem dX5_generate_25 : decode cX5_generate 25 = .ok (.iaload, 1) := by decide +kernel
theorem dX5_generate_26 : decode cX5_generate 26 = .ok (.invokestatic 90, 3) := by decide +kernel
theorem dX5_generate_29 : decode cX5_generate 29 = .ok (.aload_n 0, 1) := by decide +kernel
theorem dX5_generate_30 : decode cX5_generate 30 = .ok (.getfield 13, 3) := by decide +kernel
theorem dX5_generate_33 : decode cX5_generate 33 = .ok (.iload_n 1, 1) := by decide +kernel
theorem dX5_generate_34 : decode cX5_generate 34 = .ok (.iaload, 1) := by decide +kernel
theorem dX5_generate_35 : decode cX5_generate 35 = .ok (.if_icmp .ne 9, 3) := by decide +kernel
theorem dX5_generate_38 : decode cX5_generate 38 = .ok (.aload_n 0, 1) := by decide +kernel
theorem dX5_generate_39 : decode cX5_generate 39 = .ok (.iload_n 1, 1) := by decide +kernel
theorem dX5_generate_40 : decode cX5_generate 40 = .ok (.iload_n 2, 1) := by decide +kernel
theorem dX5_generate_41 : decode cX5_generate 41 = .ok (.invokevirtual 96, 3) := by decide +kernel
theorem dX5_generate_44 : decode cX5_generate 44 = .ok (.iinc 2 1, 3) := by decide +kernel
theorem dX5_generate_47 : decode cX5_generate 47 = .ok (.goto (-38), 3) := by decide +kernel
theorem dX5_generate_50 : decode cX5_generate 50 = .ok (.aload_n 0, 1) := by decide +kernel
theorem dX5_generate_51 : decode cX5_generate 51 = .ok (.getfield 19, 3) := by decide +kernel
theorem dX5_generate_54 : decode cX5_generate 54 = .ok (.iload_n 1, 1) := by decide +kernel
theorem dX5_generate_55 : decode cX5_generate 55 = .ok (.iaload, 1) := by decide +kernel
theorem dX5_generate_56 : decode cX5_generate 56 = .ok (.ifCond .ne 7, 3) := by decide +kernel
theorem dX5_generate_59 : decode cX5_generate 59 = .ok (.iconst 1, 1) := by decide +kernel
theorem dX5_generate_60 : decode cX5_generate 60 = .ok (.goto 4, 3) := by decide +kernel
theorem dX5_generate_63 : decode cX5_generate 63 = .ok (.iconst 0, 1) := by decide +kernel
theorem dX5_generate_64 : decode cX5_generate 64 = .ok (.istore_n 2, 1) := by decide +kernel
theorem dX5_generate_65 : decode cX5_generate 65 = .ok (.iconst 0, 1) := by decide +kernel
theorem dX5_generate_66 : decode cX5_generate 66 = .ok (.istore_n 3, 1) := by decide +kernel
theorem dX5_generate_67 : decode cX5_generate 67 = .ok (.iload_n 3, 1) := by decide +kernel
theorem dX5_generate_68 : decode cX5_generate 68 = .ok (.bipush 18, 2) := by decide +kernel
theorem dX5_generate_70 : decode cX5_generate 70 = .ok (.if_icmp .ge 42, 3) := by decide +kernel
theorem dX5_generate_73 : decode cX5_generate 73 = .ok (.iload_n 2, 1) := by decide +kernel
theorem dX5_generate_74 : decode cX5_generate 74 = .ok (.ifCond .eq 32, 3) := by decide +kernel
theorem dX5_generate_77 : decode cX5_generate 77 = .ok (.aload_n 0, 1) := by decide +kernel
theorem dX5_generate_78 : decode cX5_generate 78 = .ok (.getfield 7, 3) := by decide +kernel
theorem dX5_generate_81 : decode cX5_generate 81 = .ok (.bipush 18, 2) := by decide +kernel
theorem dX5_generate_83 : decode cX5_generate 83 = .ok (.iload_n 1, 1) := by decide +kernel
theorem dX5_generate_84 : decode cX5_generate 84 = .ok (.imul, 1) := by decide +kernel
theorem dX5_generate_85 : decode cX5_generate 85 = .ok (.iload_n 3, 1) := by decide +kernel
theorem dX5_generate_86 : decode cX5_generate 86 = .ok (.iadd, 1) := by decide +kernel
theorem dX5_generate_87 : decode cX5_generate 87 = .ok (.iaload, 1) := by decide +kernel
theorem dX5_generate_88 : decode cX5_generate 88 = .ok (.invokestatic 90, 3) := by decide +kernel
theorem dX5_generate_91 : decode cX5_generate 91 = .ok (.aload_n 0, 1) := by decide +kernel
theorem dX5_generate_92 : decode cX5_generate 92 = .ok (.getfield 13, 3) := by decide +kernel
theorem dX5_generate_95 : decode cX5_generate 95 = .ok (.iload_n 1, 1) := by decide +kernel
theorem dX5_generate_96 : decode cX5_generate 96 = .ok (.iaload, 1) := by decide +kernel
theorem dX5_generate_97 : decode cX5_generate 97 = .ok (.if_icmp .ne 9, 3) := by decide +kernel
theorem dX5_generate_100 : decode cX5_generate 100 = .ok (.aload_n 0, 1) := by decide +kernel
theorem dX5_generate_101 : decode cX5_generate 101 = .ok (.iload_n 1, 1) := by decide +kernel
theorem dX5_generate_102 : decode cX5_generate 102 = .ok (.iload_n 3, 1) := by decide +kernel
theorem dX5_generate_103 : decode cX5_generate 103 = .ok (.invokevirtual 100, 3) := by decide +kernel
theorem dX5_generate_106 : decode cX5_generate 106 = .ok (.iinc 3 1, 3) := by decide +kernel
theorem dX5_generate_109 : decode cX5_generate 109 = .ok (.goto (-42), 3) := by decide +kernel
theorem dX5_generate_112 : decode cX5_generate 112 = .ok (.return_, 1) := by decide +kernel
theorem dX5_beginning_0 : decode cX5_beginning 0 = .ok (.iload_n 0, 1) := by decide +kernel
theorem dX5_beginning_1 : decode cX5_beginning 1 = .ok (.ldc 77, 2) := by decide +kernel
theorem dX5_beginning_3 : decode cX5_beginning 3 = .ok (.idiv, 1) := by decide +kernel
theorem dX5_beginning_4 : decode cX5_beginning 4 = .ok (.bipush 18, 2) := by decide +kernel
theorem dX5_beginning_6 : decode cX5_beginning 6 = .ok (.idiv, 1) := by decide +kernel
theorem dX5_beginning_7 : decode cX5_beginning 7 = .ok (.ireturn, 1) := by decide +kernel
theorem dX5_end_0 : decode cX5_end 0 = .ok (.iload_n 0, 1) := by decide +kernel
theorem dX5_end_1 : decode cX5_end 1 = .ok (.ldc 77, 2) := by decide +kernel
theorem dX5_end_3 : decode cX5_end 3 = .ok (.idiv, 1) := by decide +kernel
theorem dX5_end_4 : decode cX5_end 4 = .ok (.bipush 18, 2) := by decide +kernel
theorem dX5_end_6 : decode cX5_end 6 = .ok (.irem, 1) := by decide +kernel
theorem dX5_end_7 : decode cX5_end 7 = .ok (.ireturn, 1) := by decide +kernel
set_option maxRecDepth 20000 in
set_option maxRecDepth 100000 in
theorem ggX5_make_X5_beginning : GoodIn wsX5_make wsX5_beginning := goodIn_r _ [8, 2] (by rfl) (by decide +kernel)
set_option maxRecDepth 20000 in
theorem gX5_make_X5_beginning : GoodIn wsX5_make (va_wsS RX5 103 yX5_beginning wsX5_beginning) := goodIn_app (goodIn_of _ (by decide +kernel)) ggX5_make_X5_beginning
set_option maxRecDepth 20000 in
set_option maxRecDepth 100000 in
theorem ggX5_make_X5_end : GoodIn wsX5_make wsX5_end := goodIn_r _ [11, 2] (by rfl) (by decide +kernel)
set_option maxRecDepth 20000 in
theorem gX5_make_X5_end : GoodIn wsX5_make (va_wsS RX5 106 yX5_end wsX5_end) := goodIn_app (goodIn_of _ (by decide +kernel)) ggX5_make_X5_end
set_option maxRecDepth 20000 in
set_option maxRecDepth 100000 in
theorem ggX5_make_X5_rowOf : GoodIn wsX5_make wsX5_rowOf := goodIn_r _ [14] (by rfl) (by decide +kernel)
set_option maxRecDepth 20000 in
theorem gX5_make_X5_rowOf : GoodIn wsX5_make (va_wsS RX5 69 yX5_rowOf wsX5_rowOf) := goodIn_app (goodIn_of _ (by decide +kernel)) ggX5_make_X5_rowOf
set_option maxRecDepth 20000 in
set_option maxRecDepth 100000 in
theorem ggX5_make_X5_crowning : GoodIn wsX5_make wsX5_crowning := goodIn_r _ [17] (by rfl) (by decide +kernel)
set_option maxRecDepth 20000 in
theorem gX5_make_X5_crowning : GoodIn wsX5_make (va_wsS RX5 93 yX5_crowning wsX5_crowning) := goodIn_app (goodIn_of _ (by decide +kernel)) ggX5_make_X5_crowning
theorem dX5_make_0 : decode cX5_make 0 = .ok (.aload_n 0, 1) := by decide +kernel
theorem dX5_make_1 : decode cX5_make 1 = .ok (.getfield 16, 3) := by decide +kernel
theorem dX5_make_4 : decode cX5_make 4 = .ok (.bipush 80, 2) := by decide +kernel
theorem dX5_make_6 : decode cX5_make 6 = .ok (.iload_n 1, 1) := by decide +kernel
theorem dX5_make_7 : decode cX5_make 7 = .ok (.imul, 1) := by decide +kernel
theorem dX5_make_8 : decode cX5_make 8 = .ok (.iload_n 2, 1) := by decide +kernel
theorem dX5_make_9 : decode cX5_make 9 = .ok (.iadd, 1) := by decide +kernel
theorem dX5_make_10 : decode cX5_make 10 = .ok (.iaload, 1) := by decide +kernel
theorem dX5_make_11 : decode cX5_make 11 = .ok (.istore_n 3, 1) := by decide +kernel
theorem dX5_make_12 : decode cX5_make 12 = .ok (.iconst 0, 1) := by decide +kernel
theorem dX5_make_13 : decode cX5_make 13 = .ok (.istore 4, 2) := by decide +kernel
theorem dX5_make_15 : decode cX5_make 15 = .ok (.iload 4, 2) := by decide +kernel
theorem dX5_make_17 : decode cX5_make 17 = .ok (.bipush 18, 2) := by decide +kernel
theorem dX5_make_19 : decode cX5_make 19 = .ok (.if_icmp .ge 65, 3) := by decide +kernel
theorem dX5_make_22 : decode cX5_make 22 = .ok (.iload_n 3, 1) := by decide +kernel
theorem dX5_make_23 : decode cX5_make 23 = .ok (.ldc 77, 2) := by decide +kernel
theorem dX5_make_25 : decode cX5_make 25 = .ok (.irem, 1) := by decide +kernel
theorem dX5_make_26 : decode cX5_make 26 = .ok (.iload 4, 2) := by decide +kernel
theorem dX5_make_28 : decode cX5_make 28 = .ok (.ishr, 1) := by decide +kernel
theorem dX5_make_29 : decode cX5_make 29 = .ok (.iconst 1, 1) := by decide +kernel
theorem dX5_make_30 : decode cX5_make 30 = .ok (.iand, 1) := by decide +kernel
theorem dX5_make_31 : decode cX5_make 31 = .ok (.iconst 1, 1) := by decide +kernel
theorem dX5_make_32 : decode cX5_make 32 = .ok (.if_icmp .ne 7, 3) := by decide +kernel
theorem dX5_make_35 : decode cX5_make 35 = .ok (.iconst 1, 1) := by decide +kernel
theorem dX5_make_36 : decode cX5_make 36 = .ok (.goto 4, 3) := by decide +kernel
theorem dX5_make_39 : decode cX5_make 39 = .ok (.iconst 0, 1) := by decide +kernel
theorem dX5_make_40 : decode cX5_make 40 = .ok (.istore 5, 2) := by decide +kernel
theorem dX5_make_42 : decode cX5_make 42 = .ok (.aload_n 0, 1) := by decide +kernel
theorem dX5_make_43 : decode cX5_make 43 = .ok (.getfield 7, 3) := by decide +kernel
theorem dX5_make_46 : decode cX5_make 46 = .ok (.bipush 18, 2) := by decide +kernel
theorem dX5_make_48 : decode cX5_make 48 = .ok (.iload_n 1, 1) := by decide +kernel
theorem dX5_make_49 : decode cX5_make 49 = .ok (.imul, 1) := by decide +kernel
theorem dX5_make_50 : decode cX5_make 50 = .ok (.bipush 18, 2) := by decide +kernel
theorem dX5_make_52 : decode cX5_make 52 = .ok (.iadd, 1) := by decide +kernel
theorem dX5_make_53 : decode cX5_make 53 = .ok (.iload 4, 2) := by decide +kernel
theorem dX5_make_55 : decode cX5_make 55 = .ok (.iadd, 1) := by decide +kernel
theorem dX5_make_56 : decode cX5_make 56 = .ok (.iload 5, 2) := by decide +kernel
theorem dX5_make_58 : decode cX5_make 58 = .ok (.ifCond .eq 7, 3) := by decide +kernel
theorem dX5_make_61 : decode cX5_make 61 = .ok (.iconst 0, 1) := by decide +kernel
theorem dX5_make_62 : decode cX5_make 62 = .ok (.goto 15, 3) := by decide +kernel
theorem dX5_make_65 : decode cX5_make 65 = .ok (.aload_n 0, 1) := by decide +kernel
theorem dX5_make_66 : decode cX5_make 66 = .ok (.getfield 7, 3) := by decide +kernel
theorem dX5_make_69 : decode cX5_make 69 = .ok (.bipush 18, 2) := by decide +kernel
theorem dX5_make_71 : decode cX5_make 71 = .ok (.iload_n 1, 1) := by decide +kernel
theorem dX5_make_72 : decode cX5_make 72 = .ok (.imul, 1) := by decide +kernel
theorem dX5_make_73 : decode cX5_make 73 = .ok (.iload 4, 2) := by decide +kernel
theorem dX5_make_75 : decode cX5_make 75 = .ok (.iadd, 1) := by decide +kernel
theorem dX5_make_76 : decode cX5_make 76 = .ok (.iaload, 1) := by decide +kernel
theorem dX5_make_77 : decode cX5_make 77 = .ok (.iastore, 1) := by decide +kernel
theorem dX5_make_78 : decode cX5_make 78 = .ok (.iinc 4 1, 3) := by decide +kernel
theorem dX5_make_81 : decode cX5_make 81 = .ok (.goto (-66), 3) := by decide +kernel
theorem dX5_make_84 : decode cX5_make 84 = .ok (.aload_n 0, 1) := by decide +kernel
theorem dX5_make_85 : decode cX5_make 85 = .ok (.getfield 7, 3) := by decide +kernel
theorem dX5_make_88 : decode cX5_make 88 = .ok (.bipush 18, 2) := by decide +kernel
theorem dX5_make_90 : decode cX5_make 90 = .ok (.iload_n 1, 1) := by decide +kernel
theorem dX5_make_91 : decode cX5_make 91 = .ok (.imul, 1) := by decide +kernel
theorem dX5_make_92 : decode cX5_make 92 = .ok (.iload_n 3, 1) := by decide +kernel
theorem dX5_make_93 : decode cX5_make 93 = .ok (.invokestatic 103, 3) := by decide +kernel
theorem dX5_make_96 : decode cX5_make 96 = .ok (.iadd, 1) := by decide +kernel
theorem dX5_make_97 : decode cX5_make 97 = .ok (.iaload, 1) := by decide +kernel
theorem dX5_make_98 : decode cX5_make 98 = .ok (.istore 4, 2) := by decide +kernel
theorem dX5_make_100 : decode cX5_make 100 = .ok (.aload_n 0, 1) := by decide +kernel
theorem dX5_make_101 : decode cX5_make 101 = .ok (.getfield 7, 3) := by decide +kernel
theorem dX5_make_104 : decode cX5_make 104 = .ok (.bipush 18, 2) := by decide +kernel
theorem dX5_make_106 : decode cX5_make 106 = .ok (.iload_n 1, 1) := by decide +kernel
theorem dX5_make_107 : decode cX5_make 107 = .ok (.imul, 1) := by decide +kernel
theorem dX5_make_108 : decode cX5_make 108 = .ok (.bipush 18, 2) := by decide +kernel
theorem dX5_make_110 : decode cX5_make 110 = .ok (.iadd, 1) := by decide +kernel
theorem dX5_make_111 : decode cX5_make 111 = .ok (.iload_n 3, 1) := by decide +kernel
theorem dX5_make_112 : decode cX5_make 112 = .ok (.invokestatic 103, 3) := by decide +kernel
theorem dX5_make_115 : decode cX5_make 115 = .ok (.iadd, 1) := by decide +kernel
theorem dX5_make_116 : decode cX5_make 116 = .ok (.iconst 0, 1) := by decide +kernel
theorem dX5_make_117 : decode cX5_make 117 = .ok (.iastore, 1) := by decide +kernel
theorem dX5_make_118 : decode cX5_make 118 = .ok (.iload_n 3, 1) := by decide +kernel
theorem dX5_make_119 : decode cX5_make 119 = .ok (.invokestatic 106, 3) := by decide +kernel
theorem dX5_make_122 : decode cX5_make 122 = .ok (.invokestatic 69, 3) := by decide +kernel
theorem dX5_make_125 : decode cX5_make 125 = .ok (.aload_n 0, 1) := by decide +kernel
theorem dX5_make_126 : decode cX5_make 126 = .ok (.getfield 13, 3) := by decide +kernel
theorem dX5_make_129 : decode cX5_make 129 = .ok (.iload_n 1, 1) := by decide +kernel
theorem dX5_make_130 : decode cX5_make 130 = .ok (.iaload, 1) := by decide +kernel
theorem dX5_make_131 : decode cX5_make 131 = .ok (.invokestatic 93, 3) := by decide +kernel
theorem dX5_make_134 : decode cX5_make 134 = .ok (.if_icmp .ne 7, 3) := by decide +kernel
theorem dX5_make_137 : decode cX5_make 137 = .ok (.iconst 1, 1) := by decide +kernel
theorem dX5_make_138 : decode cX5_make 138 = .ok (.goto 4, 3) := by decide +kernel
theorem dX5_make_141 : decode cX5_make 141 = .ok (.iconst 0, 1) := by decide +kernel
theorem dX5_make_142 : decode cX5_make 142 = .ok (.istore 5, 2) := by decide +kernel
theorem dX5_make_144 : decode cX5_make 144 = .ok (.aload_n 0, 1) := by decide +kernel
theorem dX5_make_145 : decode cX5_make 145 = .ok (.getfield 7, 3) := by decide +kernel
theorem dX5_make_148 : decode cX5_make 148 = .ok (.bipush 18, 2) := by decide +kernel
theorem dX5_make_150 : decode cX5_make 150 = .ok (.iload_n 1, 1) := by decide +kernel
theorem dX5_make_151 : decode cX5_make 151 = .ok (.imul, 1) := by decide +kernel
theorem dX5_make_152 : decode cX5_make 152 = .ok (.bipush 18, 2) := by decide +kernel
theorem dX5_make_154 : decode cX5_make 154 = .ok (.iadd, 1) := by decide +kernel
theorem dX5_make_155 : decode cX5_make 155 = .ok (.iload_n 3, 1) := by decide +kernel
theorem dX5_make_156 : decode cX5_make 156 = .ok (.invokestatic 106, 3) := by decide +kernel
theorem dX5_make_159 : decode cX5_make 159 = .ok (.iadd, 1) := by decide +kernel
theorem dX5_make_160 : decode cX5_make 160 = .ok (.iload 5, 2) := by decide +kernel
theorem dX5_make_162 : decode cX5_make 162 = .ok (.ifCond .eq 16, 3) := by decide +kernel
theorem dX5_make_165 : decode cX5_make 165 = .ok (.iconst 2, 1) := by decide +kernel
theorem dX5_make_166 : decode cX5_make 166 = .ok (.iconst 2, 1) := by decide +kernel
theorem dX5_make_167 : decode cX5_make 167 = .ok (.aload_n 0, 1) := by decide +kernel
theorem dX5_make_168 : decode cX5_make 168 = .ok (.getfield 13, 3) := by decide +kernel
theorem dX5_make_171 : decode cX5_make 171 = .ok (.iload_n 1, 1) := by decide +kernel
theorem dX5_make_172 : decode cX5_make 172 = .ok (.iaload, 1) := by decide +kernel
theorem dX5_make_173 : decode cX5_make 173 = .ok (.imul, 1) := by decide +kernel
theorem dX5_make_174 : decode cX5_make 174 = .ok (.iadd, 1) := by decide +kernel
theorem dX5_make_175 : decode cX5_make 175 = .ok (.goto 5, 3) := by decide +kernel
theorem dX5_make_178 : decode cX5_make 178 = .ok (.iload 4, 2) := by decide +kernel
theorem dX5_make_180 : decode cX5_make 180 = .ok (.iastore, 1) := by decide +kernel
theorem dX5_make_181 : decode cX5_make 181 = .ok (.aload_n 0, 1) := by decide +kernel
theorem dX5_make_182 : decode cX5_make 182 = .ok (.getfield 13, 3) := by decide +kernel
theorem dX5_make_185 : decode cX5_make 185 = .ok (.iload_n 1, 1) := by decide +kernel
theorem dX5_make_186 : decode cX5_make 186 = .ok (.iconst 1, 1) := by decide +kernel
theorem dX5_make_187 : decode cX5_make 187 = .ok (.iadd, 1) := by decide +kernel
theorem dX5_make_188 : decode cX5_make 188 = .ok (.iconst 1, 1) := by decide +kernel
theorem dX5_make_189 : decode cX5_make 189 = .ok (.aload_n 0, 1) := by decide +kernel
theorem dX5_make_190 : decode cX5_make 190 = .ok (.getfield 13, 3) := by decide +kernel
theorem dX5_make_193 : decode cX5_make 193 = .ok (.iload_n 1, 1) := by decide +kernel
theorem dX5_make_194 : decode cX5_make 194 = .ok (.iaload, 1) := by decide +kernel
theorem dX5_make_195 : decode cX5_make 195 = .ok (.isub, 1) := by decide +kernel
theorem dX5_make_196 : decode cX5_make 196 = .ok (.iastore, 1) := by decide +kernel
theorem dX5_make_197 : decode cX5_make 197 = .ok (.return_, 1) := by decide +kernel
theorem dX5_code_0 : decode cX5_code 0 = .ok (.iconst 2, 1) := by decide +kernel
theorem dX5_code_1 : decode cX5_code 1 = .ok (.iload_n 0, 1) := by decide +kernel
theorem dX5_code_2 : decode cX5_code 2 = .ok (.imul, 1) := by decide +kernel
theorem dX5_code_3 : decode cX5_code 3 = .ok (.iload_n 1, 1) := by decide +kernel
theorem dX5_code_4 : decode cX5_code 4 = .ok (.ifCond .eq 7, 3) := by decide +kernel
theorem dX5_code_7 : decode cX5_code 7 = .ok (.iconst 1, 1) := by decide +kernel
theorem dX5_code_8 : decode cX5_code 8 = .ok (.goto 4, 3) := by decide +kernel
theorem dX5_code_11 : decode cX5_code 11 = .ok (.iconst 0, 1) := by decide +kernel
theorem dX5_code_12 : decode cX5_code 12 = .ok (.iadd, 1) := by decide +kernel
theorem dX5_code_13 : decode cX5_code 13 = .ok (.bipush 18, 2) := by decide +kernel
theorem dX5_code_15 : decode cX5_code 15 = .ok (.imul, 1) := by decide +kernel
theorem dX5_code_16 : decode cX5_code 16 = .ok (.iload_n 2, 1) := by decide +kernel
theorem dX5_code_17 : decode cX5_code 17 = .ok (.iadd, 1) := by decide +kernel
theorem dX5_code_18 : decode cX5_code 18 = .ok (.bipush 36, 2) := by decide +kernel
theorem dX5_code_20 : decode cX5_code 20 = .ok (.imul, 1) := by decide +kernel
theorem dX5_code_21 : decode cX5_code 21 = .ok (.iload_n 3, 1) := by decide +kernel
theorem dX5_code_22 : decode cX5_code 22 = .ok (.ifCond .eq 8, 3) := by decide +kernel
theorem dX5_code_25 : decode cX5_code 25 = .ok (.bipush 18, 2) := by decide +kernel
theorem dX5_code_27 : decode cX5_code 27 = .ok (.goto 4, 3) := by decide +kernel
theorem dX5_code_30 : decode cX5_code 30 = .ok (.iconst 0, 1) := by decide +kernel
theorem dX5_code_31 : decode cX5_code 31 = .ok (.iadd, 1) := by decide +kernel
theorem dX5_code_32 : decode cX5_code 32 = .ok (.iload 4, 2) := by decide +kernel
theorem dX5_code_34 : decode cX5_code 34 = .ok (.iadd, 1) := by decide +kernel
theorem dX5_code_35 : decode cX5_code 35 = .ok (.ireturn, 1) := by decide +kernel
set_option maxRecDepth 20000 in
set_option maxRecDepth 100000 in
theorem ggX5_develop_X5_code : GoodIn wsX5_develop wsX5_code := goodIn_r _ [7] (by rfl) (by decide +kernel)
set_option maxRecDepth 20000 in
theorem gX5_develop_X5_code : GoodIn wsX5_develop (va_wsS RX5 109 yX5_code wsX5_code) := goodIn_app (goodIn_of _ (by decide +kernel)) ggX5_develop_X5_code
set_option maxRecDepth 20000 in
set_option maxRecDepth 100000 in
theorem ggX5_develop_X5_rowOf : GoodIn wsX5_develop wsX5_rowOf := goodIn_r _ [10] (by rfl) (by decide +kernel)
set_option maxRecDepth 20000 in
theorem gX5_develop_X5_rowOf : GoodIn wsX5_develop (va_wsS RX5 69 yX5_rowOf wsX5_rowOf) := goodIn_app (goodIn_of _ (by decide +kernel)) ggX5_develop_X5_rowOf
set_option maxRecDepth 20000 in
set_option maxRecDepth 100000 in
theorem ggX5_develop_X5_crowning : GoodIn wsX5_develop wsX5_crowning := goodIn_r _ [13] (by rfl) (by decide +kernel)
set_option maxRecDepth 20000 in
theorem gX5_develop_X5_crowning : GoodIn wsX5_develop (va_wsS RX5 93 yX5_crowning wsX5_crowning) := goodIn_app (goodIn_of _ (by decide +kernel)) ggX5_develop_X5_crowning
theorem dX5_develop_0 : decode cX5_develop 0 = .ok (.iconst 4, 1) := by decide +kernel
theorem dX5_develop_1 : decode cX5_develop 1 = .ok (.iload_n 1, 1) := by decide +kernel
theorem dX5_develop_2 : decode cX5_develop 2 = .ok (.iload_n 2, 1) := by decide +kernel
theorem dX5_develop_3 : decode cX5_develop 3 = .ok (.iload_n 3, 1) := by decide +kernel
theorem dX5_develop_4 : decode cX5_develop 4 = .ok (.iload 4, 2) := by decide +kernel
theorem dX5_develop_6 : decode cX5_develop 6 = .ok (.iload 5, 2) := by decide +kernel
theorem dX5_develop_8 : decode cX5_develop 8 = .ok (.invokestatic 109, 3) := by decide +kernel
theorem dX5_develop_11 : decode cX5_develop 11 = .ok (.imul, 1) := by decide +kernel
theorem dX5_develop_12 : decode cX5_develop 12 = .ok (.istore 6, 2) := by decide +kernel
theorem dX5_develop_14 : decode cX5_develop 14 = .ok (.iconst 0, 1) := by decide +kernel
theorem dX5_develop_15 : decode cX5_develop 15 = .ok (.istore 7, 2) := by decide +kernel
theorem dX5_develop_17 : decode cX5_develop 17 = .ok (.iconst 0, 1) := by decide +kernel
theorem dX5_develop_18 : decode cX5_develop 18 = .ok (.istore 8, 2) := by decide +kernel
theorem dX5_develop_20 : decode cX5_develop 20 = .ok (.iconst 0, 1) := by decide +kernel
theorem dX5_develop_21 : decode cX5_develop 21 = .ok (.istore 9, 2) := by decide +kernel
theorem dX5_develop_23 : decode cX5_develop 23 = .ok (.iload 9, 2) := by decide +kernel
theorem dX5_develop_25 : decode cX5_develop 25 = .ok (.iconst 4, 1) := by decide +kernel
theorem dX5_develop_26 : decode cX5_develop 26 = .ok (.if_icmp .ge 101, 3) := by decide +kernel
theorem dX5_develop_29 : decode cX5_develop 29 = .ok (.aload_n 0, 1) := by decide +kernel
theorem dX5_develop_30 : decode cX5_develop 30 = .ok (.getfield 56, 3) := by decide +kernel
theorem dX5_develop_33 : decode cX5_develop 33 = .ok (.iload 6, 2) := by decide +kernel
theorem dX5_develop_35 : decode cX5_develop 35 = .ok (.iload 9, 2) := by decide +kernel
theorem dX5_develop_37 : decode cX5_develop 37 = .ok (.iadd, 1) := by decide +kernel
theorem dX5_develop_38 : decode cX5_develop 38 = .ok (.iconst (-1), 1) := by decide +kernel
theorem dX5_develop_39 : decode cX5_develop 39 = .ok (.iastore, 1) := by decide +kernel
theorem dX5_develop_40 : decode cX5_develop 40 = .ok (.iload_n 2, 1) := by decide +kernel
theorem dX5_develop_41 : decode cX5_develop 41 = .ok (.ifCond .ne 26, 3) := by decide +kernel
theorem dX5_develop_44 : decode cX5_develop 44 = .ok (.iload_n 1, 1) := by decide +kernel
theorem dX5_develop_45 : decode cX5_develop 45 = .ok (.ifCond .ne 7, 3) := by decide +kernel
theorem dX5_develop_48 : decode cX5_develop 48 = .ok (.iconst 1, 1) := by decide +kernel
theorem dX5_develop_49 : decode cX5_develop 49 = .ok (.goto 4, 3) := by decide +kernel
theorem dX5_develop_52 : decode cX5_develop 52 = .ok (.iconst 0, 1) := by decide +kernel
theorem dX5_develop_53 : decode cX5_develop 53 = .ok (.iload 9, 2) := by decide +kernel
theorem dX5_develop_55 : decode cX5_develop 55 = .ok (.iconst 2, 1) := by decide +kernel
theorem dX5_develop_56 : decode cX5_develop 56 = .ok (.if_icmp .ge 7, 3) := by decide +kernel
theorem dX5_develop_59 : decode cX5_develop 59 = .ok (.iconst 1, 1) := by decide +kernel
theorem dX5_develop_60 : decode cX5_develop 60 = .ok (.goto 4, 3) := by decide +kernel
theorem dX5_develop_63 : decode cX5_develop 63 = .ok (.iconst 0, 1) := by decide +kernel
theorem dX5_develop_64 : decode cX5_develop 64 = .ok (.if_icmp .ne 7, 3) := by decide +kernel
theorem dX5_develop_67 : decode cX5_develop 67 = .ok (.iconst 1, 1) := by decide +kernel
theorem dX5_develop_68 : decode cX5_develop 68 = .ok (.goto 4, 3) := by decide +kernel
theorem dX5_develop_71 : decode cX5_develop 71 = .ok (.iconst 0, 1) := by decide +kernel
theorem dX5_develop_72 : decode cX5_develop 72 = .ok (.istore 10, 2) := by decide +kernel
theorem dX5_develop_74 : decode cX5_develop 74 = .ok (.iload 8, 2) := by decide +kernel
theorem dX5_develop_76 : decode cX5_develop 76 = .ok (.ifCond .ne 38, 3) := by decide +kernel
theorem dX5_develop_79 : decode cX5_develop 79 = .ok (.iload 10, 2) := by decide +kernel
theorem dX5_develop_81 : decode cX5_develop 81 = .ok (.ifCond .eq 37, 3) := by decide +kernel
theorem dX5_develop_84 : decode cX5_develop 84 = .ok (.aload_n 0, 1) := by decide +kernel
theorem dX5_develop_85 : decode cX5_develop 85 = .ok (.getfield 31, 3) := by decide +kernel
theorem dX5_develop_88 : decode cX5_develop 88 = .ok (.iconst 4, 1) := by decide +kernel
theorem dX5_develop_89 : decode cX5_develop 89 = .ok (.iload_n 3, 1) := by decide +kernel
theorem dX5_develop_90 : decode cX5_develop 90 = .ok (.imul, 1) := by decide +kernel
theorem dX5_develop_91 : decode cX5_develop 91 = .ok (.iload 9, 2) := by decide +kernel
theorem dX5_develop_93 : decode cX5_develop 93 = .ok (.iadd, 1) := by decide +kernel
theorem dX5_develop_94 : decode cX5_develop 94 = .ok (.iaload, 1) := by decide +kernel
theorem dX5_develop_95 : decode cX5_develop 95 = .ok (.iload 5, 2) := by decide +kernel
theorem dX5_develop_97 : decode cX5_develop 97 = .ok (.if_icmp .ne 21, 3) := by decide +kernel
theorem dX5_develop_100 : decode cX5_develop 100 = .ok (.aload_n 0, 1) := by decide +kernel
theorem dX5_develop_101 : decode cX5_develop 101 = .ok (.getfield 34, 3) := by decide +kernel
theorem dX5_develop_104 : decode cX5_develop 104 = .ok (.iconst 4, 1) := by decide +kernel
theorem dX5_develop_105 : decode cX5_develop 105 = .ok (.iload_n 3, 1) := by decide +kernel
theorem dX5_develop_106 : decode cX5_develop 106 = .ok (.imul, 1) := by decide +kernel
theorem dX5_develop_107 : decode cX5_develop 107 = .ok (.iload 9, 2) := by decide +kernel
theorem dX5_develop_109 : decode cX5_develop 109 = .ok (.iadd, 1) := by decide +kernel
theorem dX5_develop_110 : decode cX5_develop 110 = .ok (.iaload, 1) := by decide +kernel
theorem dX5_develop_111 : decode cX5_develop 111 = .ok (.ifCond .lt 7, 3) := by decide +kernel
theorem dX5_develop_114 : decode cX5_develop 114 = .ok (.iconst 1, 1) := by decide +kernel
theorem dX5_develop_115 : decode cX5_develop 115 = .ok (.goto 4, 3) := by decide +kernel
theorem dX5_develop_118 : decode cX5_develop 118 = .ok (.iconst 0, 1) := by decide +kernel
theorem dX5_develop_119 : decode cX5_develop 119 = .ok (.istore 8, 2) := by decide +kernel
theorem dX5_develop_121 : decode cX5_develop 121 = .ok (.iinc 9 1, 3) := by decide +kernel
theorem dX5_develop_124 : decode cX5_develop 124 = .ok (.goto (-101), 3) := by decide +kernel
theorem dX5_develop_127 : decode cX5_develop 127 = .ok (.iload 8, 2) := by decide +kernel
theorem dX5_develop_129 : decode cX5_develop 129 = .ok (.ifCond .eq 13, 3) := by decide +kernel
theorem dX5_develop_132 : decode cX5_develop 132 = .ok (.aload_n 0, 1) := by decide +kernel
theorem dX5_develop_133 : decode cX5_develop 133 = .ok (.getfield 56, 3) := by decide +kernel
theorem dX5_develop_136 : decode cX5_develop 136 = .ok (.iload 6, 2) := by decide +kernel
theorem dX5_develop_138 : decode cX5_develop 138 = .ok (.bipush (-2), 2) := by decide +kernel
theorem dX5_develop_140 : decode cX5_develop 140 = .ok (.iastore, 1) := by decide +kernel
theorem dX5_develop_141 : decode cX5_develop 141 = .ok (.return_, 1) := by decide +kernel
theorem dX5_develop_142 : decode cX5_develop 142 = .ok (.iconst 0, 1) := by decide +kernel
theorem dX5_develop_143 : decode cX5_develop 143 = .ok (.istore 9, 2) := by decide +kernel
theorem dX5_develop_145 : decode cX5_develop 145 = .ok (.iload 9, 2) := by decide +kernel
theorem dX5_develop_147 : decode cX5_develop 147 = .ok (.iconst 4, 1) := by decide +kernel
theorem dX5_develop_148 : decode cX5_develop 148 = .ok (.if_icmp .ge 123, 3) := by decide +kernel
theorem dX5_develop_151 : decode cX5_develop 151 = .ok (.aload_n 0, 1) := by decide +kernel
theorem dX5_develop_152 : decode cX5_develop 152 = .ok (.getfield 31, 3) := by decide +kernel
theorem dX5_develop_155 : decode cX5_develop 155 = .ok (.iconst 4, 1) := by decide +kernel
theorem dX5_develop_156 : decode cX5_develop 156 = .ok (.iload_n 3, 1) := by decide +kernel
theorem dX5_develop_157 : decode cX5_develop 157 = .ok (.imul, 1) := by decide +kernel
theorem dX5_develop_158 : decode cX5_develop 158 = .ok (.iload 9, 2) := by decide +kernel
theorem dX5_develop_160 : decode cX5_develop 160 = .ok (.iadd, 1) := by decide +kernel
theorem dX5_develop_161 : decode cX5_develop 161 = .ok (.iaload, 1) := by decide +kernel
theorem dX5_develop_162 : decode cX5_develop 162 = .ok (.istore 10, 2) := by decide +kernel
theorem dX5_develop_164 : decode cX5_develop 164 = .ok (.iload_n 2, 1) := by decide +kernel
theorem dX5_develop_165 : decode cX5_develop 165 = .ok (.ifCond .ne 26, 3) := by decide +kernel
theorem dX5_develop_168 : decode cX5_develop 168 = .ok (.iload_n 1, 1) := by decide +kernel
theorem dX5_develop_169 : decode cX5_develop 169 = .ok (.ifCond .ne 7, 3) := by decide +kernel
theorem dX5_develop_172 : decode cX5_develop 172 = .ok (.iconst 1, 1) := by decide +kernel
theorem dX5_develop_173 : decode cX5_develop 173 = .ok (.goto 4, 3) := by decide +kernel
theorem dX5_develop_176 : decode cX5_develop 176 = .ok (.iconst 0, 1) := by decide +kernel
theorem dX5_develop_177 : decode cX5_develop 177 = .ok (.iload 9, 2) := by decide +kernel
theorem dX5_develop_179 : decode cX5_develop 179 = .ok (.iconst 2, 1) := by decide +kernel
theorem dX5_develop_180 : decode cX5_develop 180 = .ok (.if_icmp .ge 7, 3) := by decide +kernel
theorem dX5_develop_183 : decode cX5_develop 183 = .ok (.iconst 1, 1) := by decide +kernel
theorem dX5_develop_184 : decode cX5_develop 184 = .ok (.goto 4, 3) := by decide +kernel
theorem dX5_develop_187 : decode cX5_develop 187 = .ok (.iconst 0, 1) := by decide +kernel
theorem dX5_develop_188 : decode cX5_develop 188 = .ok (.if_icmp .ne 7, 3) := by decide +kernel
theorem dX5_develop_191 : decode cX5_develop 191 = .ok (.iconst 1, 1) := by decide +kernel
theorem dX5_develop_192 : decode cX5_develop 192 = .ok (.goto 4, 3) := by decide +kernel
theorem dX5_develop_195 : decode cX5_develop 195 = .ok (.iconst 0, 1) := by decide +kernel
theorem dX5_develop_196 : decode cX5_develop 196 = .ok (.istore 11, 2) := by decide +kernel
theorem dX5_develop_198 : decode cX5_develop 198 = .ok (.iload 11, 2) := by decide +kernel
theorem dX5_develop_200 : decode cX5_develop 200 = .ok (.ifCond .eq 65, 3) := by decide +kernel
theorem dX5_develop_203 : decode cX5_develop 203 = .ok (.iload 10, 2) := by decide +kernel
theorem dX5_develop_205 : decode cX5_develop 205 = .ok (.ifCond .lt 60, 3) := by decide +kernel
theorem dX5_develop_208 : decode cX5_develop 208 = .ok (.iload 10, 2) := by decide +kernel
theorem dX5_develop_210 : decode cX5_develop 210 = .ok (.iload 5, 2) := by decide +kernel
theorem dX5_develop_212 : decode cX5_develop 212 = .ok (.if_icmp .eq 53, 3) := by decide +kernel
theorem dX5_develop_215 : decode cX5_develop 215 = .ok (.iload_n 2, 1) := by decide +kernel
theorem dX5_develop_216 : decode cX5_develop 216 = .ok (.ifCond .ne 15, 3) := by decide +kernel
theorem dX5_develop_219 : decode cX5_develop 219 = .ok (.iload 10, 2) := by decide +kernel
theorem dX5_develop_221 : decode cX5_develop 221 = .ok (.invokestatic 69, 3) := by decide +kernel
theorem dX5_develop_224 : decode cX5_develop 224 = .ok (.iload_n 1, 1) := by decide +kernel
theorem dX5_develop_225 : decode cX5_develop 225 = .ok (.invokestatic 93, 3) := by decide +kernel
theorem dX5_develop_228 : decode cX5_develop 228 = .ok (.if_icmp .ne 7, 3) := by decide +kernel
theorem dX5_develop_231 : decode cX5_develop 231 = .ok (.iconst 1, 1) := by decide +kernel
theorem dX5_develop_232 : decode cX5_develop 232 = .ok (.goto 4, 3) := by decide +kernel
theorem dX5_develop_235 : decode cX5_develop 235 = .ok (.iconst 0, 1) := by decide +kernel
theorem dX5_develop_236 : decode cX5_develop 236 = .ok (.istore 12, 2) := by decide +kernel
theorem dX5_develop_238 : decode cX5_develop 238 = .ok (.aload_n 0, 1) := by decide +kernel
theorem dX5_develop_239 : decode cX5_develop 239 = .ok (.getfield 56, 3) := by decide +kernel
theorem dX5_develop_242 : decode cX5_develop 242 = .ok (.iload 6, 2) := by decide +kernel
theorem dX5_develop_244 : decode cX5_develop 244 = .ok (.iload 7, 2) := by decide +kernel
theorem dX5_develop_246 : decode cX5_develop 246 = .ok (.iadd, 1) := by decide +kernel
theorem dX5_develop_247 : decode cX5_develop 247 = .ok (.iconst 1, 1) := by decide +kernel
theorem dX5_develop_248 : decode cX5_develop 248 = .ok (.iload_n 1, 1) := by decide +kernel
theorem dX5_develop_249 : decode cX5_develop 249 = .ok (.isub, 1) := by decide +kernel
theorem dX5_develop_250 : decode cX5_develop 250 = .ok (.iload 4, 2) := by decide +kernel
theorem dX5_develop_252 : decode cX5_develop 252 = .ok (.iload 5, 2) := by decide +kernel
theorem dX5_develop_254 : decode cX5_develop 254 = .ok (.iload 12, 2) := by decide +kernel
theorem dX5_develop_256 : decode cX5_develop 256 = .ok (.iload 10, 2) := by decide +kernel
theorem dX5_develop_258 : decode cX5_develop 258 = .ok (.invokestatic 109, 3) := by decide +kernel
theorem dX5_develop_261 : decode cX5_develop 261 = .ok (.iastore, 1) := by decide +kernel
theorem dX5_develop_262 : decode cX5_develop 262 = .ok (.iinc 7 1, 3) := by decide +kernel
theorem dX5_develop_265 : decode cX5_develop 265 = .ok (.iinc 9 1, 3) := by decide +kernel
theorem dX5_develop_268 : decode cX5_develop 268 = .ok (.goto (-123), 3) := by decide +kernel
theorem dX5_develop_271 : decode cX5_develop 271 = .ok (.return_, 1) := by decide +kernel
theorem dX5_someLost_0 : decode cX5_someLost 0 = .ok (.iconst 0, 1) := by decide +kernel
theorem dX5_someLost_1 : decode cX5_someLost 1 = .ok (.istore_n 3, 1) := by decide +kernel
theorem dX5_someLost_2 : decode cX5_someLost 2 = .ok (.iconst 0, 1) := by decide +kernel
theorem dX5_someLost_3 : decode cX5_someLost 3 = .ok (.istore 4, 2) := by decide +kernel
theorem dX5_someLost_5 : decode cX5_someLost 5 = .ok (.iload 4, 2) := by decide +kernel
theorem dX5_someLost_7 : decode cX5_someLost 7 = .ok (.iconst 4, 1) := by decide +kernel
theorem dX5_someLost_8 : decode cX5_someLost 8 = .ok (.if_icmp .ge 62, 3) := by decide +kernel
theorem dX5_someLost_11 : decode cX5_someLost 11 = .ok (.aload_n 0, 1) := by decide +kernel
theorem dX5_someLost_12 : decode cX5_someLost 12 = .ok (.getfield 56, 3) := by decide +kernel
theorem dX5_someLost_15 : decode cX5_someLost 15 = .ok (.iconst 4, 1) := by decide +kernel
theorem dX5_someLost_16 : decode cX5_someLost 16 = .ok (.iload_n 1, 1) := by decide +kernel
theorem dX5_someLost_17 : decode cX5_someLost 17 = .ok (.imul, 1) := by decide +kernel
theorem dX5_someLost_18 : decode cX5_someLost 18 = .ok (.iload 4, 2) := by decide +kernel
theorem dX5_someLost_20 : decode cX5_someLost 20 = .ok (.iadd, 1) := by decide +kernel
theorem dX5_someLost_21 : decode cX5_someLost 21 = .ok (.iaload, 1) := by decide +kernel
theorem dX5_someLost_22 : decode cX5_someLost 22 = .ok (.istore 5, 2) := by decide +kernel
theorem dX5_someLost_24 : decode cX5_someLost 24 = .ok (.iload_n 3, 1) := by decide +kernel
theorem dX5_someLost_25 : decode cX5_someLost 25 = .ok (.ifCond .ne 33, 3) := by decide +kernel
theorem dX5_someLost_28 : decode cX5_someLost 28 = .ok (.iload 5, 2) := by decide +kernel
theorem dX5_someLost_30 : decode cX5_someLost 30 = .ok (.bipush (-2), 2) := by decide +kernel
theorem dX5_someLost_32 : decode cX5_someLost 32 = .ok (.if_icmp .ne 7, 3) := by decide +kernel
theorem dX5_someLost_35 : decode cX5_someLost 35 = .ok (.iload_n 2, 1) := by decide +kernel
theorem dX5_someLost_36 : decode cX5_someLost 36 = .ok (.ifCond .eq 22, 3) := by decide +kernel
theorem dX5_someLost_39 : decode cX5_someLost 39 = .ok (.iload 5, 2) := by decide +kernel
theorem dX5_someLost_41 : decode cX5_someLost 41 = .ok (.ifCond .lt 21, 3) := by decide +kernel
theorem dX5_someLost_44 : decode cX5_someLost 44 = .ok (.aload_n 0, 1) := by decide +kernel
theorem dX5_someLost_45 : decode cX5_someLost 45 = .ok (.getfield 59, 3) := by decide +kernel
theorem dX5_someLost_48 : decode cX5_someLost 48 = .ok (.iload 5, 2) := by decide +kernel
theorem dX5_someLost_50 : decode cX5_someLost 50 = .ok (.iaload, 1) := by decide +kernel
theorem dX5_someLost_51 : decode cX5_someLost 51 = .ok (.iload_n 2, 1) := by decide +kernel
theorem dX5_someLost_52 : decode cX5_someLost 52 = .ok (.ineg, 1) := by decide +kernel
theorem dX5_someLost_53 : decode cX5_someLost 53 = .ok (.iconst 1, 1) := by decide +kernel
theorem dX5_someLost_54 : decode cX5_someLost 54 = .ok (.isub, 1) := by decide +kernel
theorem dX5_someLost_55 : decode cX5_someLost 55 = .ok (.if_icmp .ne 7, 3) := by decide +kernel
theorem dX5_someLost_58 : decode cX5_someLost 58 = .ok (.iconst 1, 1) := by decide +kernel
theorem dX5_someLost_59 : decode cX5_someLost 59 = .ok (.goto 4, 3) := by decide +kernel
theorem dX5_someLost_62 : decode cX5_someLost 62 = .ok (.iconst 0, 1) := by decide +kernel
theorem dX5_someLost_63 : decode cX5_someLost 63 = .ok (.istore_n 3, 1) := by decide +kernel
theorem dX5_someLost_64 : decode cX5_someLost 64 = .ok (.iinc 4 1, 3) := by decide +kernel
theorem dX5_someLost_67 : decode cX5_someLost 67 = .ok (.goto (-62), 3) := by decide +kernel
theorem dX5_someLost_70 : decode cX5_someLost 70 = .ok (.iload_n 3, 1) := by decide +kernel
theorem dX5_someLost_71 : decode cX5_someLost 71 = .ok (.ireturn, 1) := by decide +kernel
theorem dX5_allWon_0 : decode cX5_allWon 0 = .ok (.iconst 0, 1) := by decide +kernel
theorem dX5_allWon_1 : decode cX5_allWon 1 = .ok (.istore_n 2, 1) := by decide +kernel
theorem dX5_allWon_2 : decode cX5_allWon 2 = .ok (.iconst 1, 1) := by decide +kernel
theorem dX5_allWon_3 : decode cX5_allWon 3 = .ok (.istore_n 3, 1) := by decide +kernel
theorem dX5_allWon_4 : decode cX5_allWon 4 = .ok (.iconst 0, 1) := by decide +kernel
theorem dX5_allWon_5 : decode cX5_allWon 5 = .ok (.istore 4, 2) := by decide +kernel
theorem dX5_allWon_7 : decode cX5_allWon 7 = .ok (.iload 4, 2) := by decide +kernel
theorem dX5_allWon_9 : decode cX5_allWon 9 = .ok (.iconst 4, 1) := by decide +kernel
theorem dX5_allWon_10 : decode cX5_allWon 10 = .ok (.if_icmp .ge 84, 3) := by decide +kernel
theorem dX5_allWon_13 : decode cX5_allWon 13 = .ok (.aload_n 0, 1) := by decide +kernel
theorem dX5_allWon_14 : decode cX5_allWon 14 = .ok (.getfield 56, 3) := by decide +kernel
theorem dX5_allWon_17 : decode cX5_allWon 17 = .ok (.iconst 4, 1) := by decide +kernel
theorem dX5_allWon_18 : decode cX5_allWon 18 = .ok (.iload_n 1, 1) := by decide +kernel
theorem dX5_allWon_19 : decode cX5_allWon 19 = .ok (.imul, 1) := by decide +kernel
theorem dX5_allWon_20 : decode cX5_allWon 20 = .ok (.iload 4, 2) := by decide +kernel
theorem dX5_allWon_22 : decode cX5_allWon 22 = .ok (.iadd, 1) := by decide +kernel
theorem dX5_allWon_23 : decode cX5_allWon 23 = .ok (.iaload, 1) := by decide +kernel
theorem dX5_allWon_24 : decode cX5_allWon 24 = .ok (.istore 5, 2) := by decide +kernel
theorem dX5_allWon_26 : decode cX5_allWon 26 = .ok (.iload 5, 2) := by decide +kernel
theorem dX5_allWon_28 : decode cX5_allWon 28 = .ok (.iconst (-1), 1) := by decide +kernel
theorem dX5_allWon_29 : decode cX5_allWon 29 = .ok (.if_icmp .eq 59, 3) := by decide +kernel
theorem dX5_allWon_32 : decode cX5_allWon 32 = .ok (.iload_n 3, 1) := by decide +kernel
theorem dX5_allWon_33 : decode cX5_allWon 33 = .ok (.ifCond .eq 22, 3) := by decide +kernel
theorem dX5_allWon_36 : decode cX5_allWon 36 = .ok (.iload 5, 2) := by decide +kernel
theorem dX5_allWon_38 : decode cX5_allWon 38 = .ok (.ifCond .lt 17, 3) := by decide +kernel
theorem dX5_allWon_41 : decode cX5_allWon 41 = .ok (.aload_n 0, 1) := by decide +kernel
theorem dX5_allWon_42 : decode cX5_allWon 42 = .ok (.getfield 59, 3) := by decide +kernel
theorem dX5_allWon_45 : decode cX5_allWon 45 = .ok (.iload 5, 2) := by decide +kernel
theorem dX5_allWon_47 : decode cX5_allWon 47 = .ok (.iaload, 1) := by decide +kernel
theorem dX5_allWon_48 : decode cX5_allWon 48 = .ok (.ifCond .le 7, 3) := by decide +kernel
theorem dX5_allWon_51 : decode cX5_allWon 51 = .ok (.iconst 1, 1) := by decide +kernel
theorem dX5_allWon_52 : decode cX5_allWon 52 = .ok (.goto 4, 3) := by decide +kernel
theorem dX5_allWon_55 : decode cX5_allWon 55 = .ok (.iconst 0, 1) := by decide +kernel
theorem dX5_allWon_56 : decode cX5_allWon 56 = .ok (.istore_n 3, 1) := by decide +kernel
theorem dX5_allWon_57 : decode cX5_allWon 57 = .ok (.iload_n 3, 1) := by decide +kernel
theorem dX5_allWon_58 : decode cX5_allWon 58 = .ok (.ifCond .eq 28, 3) := by decide +kernel
theorem dX5_allWon_61 : decode cX5_allWon 61 = .ok (.aload_n 0, 1) := by decide +kernel
theorem dX5_allWon_62 : decode cX5_allWon 62 = .ok (.getfield 59, 3) := by decide +kernel
theorem dX5_allWon_65 : decode cX5_allWon 65 = .ok (.iload 5, 2) := by decide +kernel
theorem dX5_allWon_67 : decode cX5_allWon 67 = .ok (.iaload, 1) := by decide +kernel
theorem dX5_allWon_68 : decode cX5_allWon 68 = .ok (.iconst 1, 1) := by decide +kernel
theorem dX5_allWon_69 : decode cX5_allWon 69 = .ok (.isub, 1) := by decide +kernel
theorem dX5_allWon_70 : decode cX5_allWon 70 = .ok (.iload_n 2, 1) := by decide +kernel
theorem dX5_allWon_71 : decode cX5_allWon 71 = .ok (.if_icmp .le 15, 3) := by decide +kernel
theorem dX5_allWon_74 : decode cX5_allWon 74 = .ok (.aload_n 0, 1) := by decide +kernel
theorem dX5_allWon_75 : decode cX5_allWon 75 = .ok (.getfield 59, 3) := by decide +kernel
theorem dX5_allWon_78 : decode cX5_allWon 78 = .ok (.iload 5, 2) := by decide +kernel
theorem dX5_allWon_80 : decode cX5_allWon 80 = .ok (.iaload, 1) := by decide +kernel
theorem dX5_allWon_81 : decode cX5_allWon 81 = .ok (.iconst 1, 1) := by decide +kernel
theorem dX5_allWon_82 : decode cX5_allWon 82 = .ok (.isub, 1) := by decide +kernel
theorem dX5_allWon_83 : decode cX5_allWon 83 = .ok (.goto 4, 3) := by decide +kernel
theorem dX5_allWon_86 : decode cX5_allWon 86 = .ok (.iload_n 2, 1) := by decide +kernel
theorem dX5_allWon_87 : decode cX5_allWon 87 = .ok (.istore_n 2, 1) := by decide +kernel
theorem dX5_allWon_88 : decode cX5_allWon 88 = .ok (.iinc 4 1, 3) := by decide +kernel
theorem dX5_allWon_91 : decode cX5_allWon 91 = .ok (.goto (-84), 3) := by decide +kernel
theorem dX5_allWon_94 : decode cX5_allWon 94 = .ok (.iload_n 3, 1) := by decide +kernel
theorem dX5_allWon_95 : decode cX5_allWon 95 = .ok (.ifCond .eq 7, 3) := by decide +kernel
theorem dX5_allWon_98 : decode cX5_allWon 98 = .ok (.iload_n 2, 1) := by decide +kernel
theorem dX5_allWon_99 : decode cX5_allWon 99 = .ok (.goto 4, 3) := by decide +kernel
theorem dX5_allWon_102 : decode cX5_allWon 102 = .ok (.iconst (-1), 1) := by decide +kernel
theorem dX5_allWon_103 : decode cX5_allWon 103 = .ok (.ireturn, 1) := by decide +kernel
set_option maxRecDepth 20000 in
set_option maxRecDepth 100000 in
theorem ggX5_solve_X5_develop : GoodIn wsX5_solve wsX5_develop := goodIn_r _ [8, 3, 9, 10, 11, 12, 7, 13, 14, 15, 16, 17, 18, 19, 32, 33, 34, 35, 36, 37, 38, 39, 40, 41, 42, 43, 44, 45, 46, 47, 48, 49, 50, 51] (by rfl) (by decide +kernel)
set_option maxRecDepth 20000 in
theorem gX5_solve_X5_develop : GoodIn wsX5_solve (wsV RX5 117 RX5 yX5_develop wsX5_develop) := goodIn_app (goodIn_of _ (by decide +kernel)) ggX5_solve_X5_develop
set_option maxRecDepth 20000 in
set_option maxRecDepth 100000 in
theorem ggX5_solve_X5_judge : GoodIn wsX5_solve wsX5_judge := goodIn_r _ [23, 24, 25, 26, 7, 27, 3, 2, 28, 29, 30, 31, 32, 33, 34, 35, 36, 37, 38, 39, 40, 41, 42, 43, 44, 45, 46, 47, 48, 49, 50, 51] (by rfl) (by decide +kernel)
set_option maxRecDepth 20000 in
theorem gX5_solve_X5_judge : GoodIn wsX5_solve (wsV RX5 121 RX5 yX5_judge wsX5_judge) := goodIn_app (goodIn_of _ (by decide +kernel)) ggX5_solve_X5_judge
theorem dX5_solve_0 : decode cX5_solve 0 = .ok (.aload_n 0, 1) := by decide +kernel
theorem dX5_solve_1 : decode cX5_solve 1 = .ok (.getfield 113, 3) := by decide +kernel
theorem dX5_solve_4 : decode cX5_solve 4 = .ok (.ifCond .eq 4, 3) := by decide +kernel
theorem dX5_solve_7 : decode cX5_solve 7 = .ok (.return_, 1) := by decide +kernel
theorem dX5_solve_8 : decode cX5_solve 8 = .ok (.aload_n 0, 1) := by decide +kernel
theorem dX5_solve_9 : decode cX5_solve 9 = .ok (.iconst 1, 1) := by decide +kernel
theorem dX5_solve_10 : decode cX5_solve 10 = .ok (.putfield 113, 3) := by decide +kernel
theorem dX5_solve_13 : decode cX5_solve 13 = .ok (.iconst 0, 1) := by decide +kernel
theorem dX5_solve_14 : decode cX5_solve 14 = .ok (.istore_n 1, 1) := by decide +kernel
theorem dX5_solve_15 : decode cX5_solve 15 = .ok (.iload_n 1, 1) := by decide +kernel
theorem dX5_solve_16 : decode cX5_solve 16 = .ok (.sipush 2592, 3) := by decide +kernel
theorem dX5_solve_19 : decode cX5_solve 19 = .ok (.if_icmp .ge 90, 3) := by decide +kernel
theorem dX5_solve_22 : decode cX5_solve 22 = .ok (.iload_n 1, 1) := by decide +kernel
theorem dX5_solve_23 : decode cX5_solve 23 = .ok (.bipush 36, 2) := by decide +kernel
theorem dX5_solve_25 : decode cX5_solve 25 = .ok (.idiv, 1) := by decide +kernel
theorem dX5_solve_26 : decode cX5_solve 26 = .ok (.bipush 18, 2) := by decide +kernel
theorem dX5_solve_28 : decode cX5_solve 28 = .ok (.irem, 1) := by decide +kernel
theorem dX5_solve_29 : decode cX5_solve 29 = .ok (.istore_n 2, 1) := by decide +kernel
theorem dX5_solve_30 : decode cX5_solve 30 = .ok (.iload_n 1, 1) := by decide +kernel
theorem dX5_solve_31 : decode cX5_solve 31 = .ok (.bipush 18, 2) := by decide +kernel
theorem dX5_solve_33 : decode cX5_solve 33 = .ok (.irem, 1) := by decide +kernel
theorem dX5_solve_34 : decode cX5_solve 34 = .ok (.istore_n 3, 1) := by decide +kernel
theorem dX5_solve_35 : decode cX5_solve 35 = .ok (.iload_n 1, 1) := by decide +kernel
theorem dX5_solve_36 : decode cX5_solve 36 = .ok (.sipush 1296, 3) := by decide +kernel
theorem dX5_solve_39 : decode cX5_solve 39 = .ok (.idiv, 1) := by decide +kernel
theorem dX5_solve_40 : decode cX5_solve 40 = .ok (.istore 4, 2) := by decide +kernel
theorem dX5_solve_42 : decode cX5_solve 42 = .ok (.aload_n 0, 1) := by decide +kernel
theorem dX5_solve_43 : decode cX5_solve 43 = .ok (.iload 4, 2) := by decide +kernel
theorem dX5_solve_45 : decode cX5_solve 45 = .ok (.iload_n 1, 1) := by decide +kernel
theorem dX5_solve_46 : decode cX5_solve 46 = .ok (.sipush 648, 3) := by decide +kernel
theorem dX5_solve_49 : decode cX5_solve 49 = .ok (.idiv, 1) := by decide +kernel
theorem dX5_solve_50 : decode cX5_solve 50 = .ok (.iconst 2, 1) := by decide +kernel
theorem dX5_solve_51 : decode cX5_solve 51 = .ok (.irem, 1) := by decide +kernel
theorem dX5_solve_52 : decode cX5_solve 52 = .ok (.iconst 1, 1) := by decide +kernel
theorem dX5_solve_53 : decode cX5_solve 53 = .ok (.if_icmp .ne 7, 3) := by decide +kernel
theorem dX5_solve_56 : decode cX5_solve 56 = .ok (.iconst 1, 1) := by decide +kernel
theorem dX5_solve_57 : decode cX5_solve 57 = .ok (.goto 4, 3) := by decide +kernel
theorem dX5_solve_60 : decode cX5_solve 60 = .ok (.iconst 0, 1) := by decide +kernel
theorem dX5_solve_61 : decode cX5_solve 61 = .ok (.iload_n 2, 1) := by decide +kernel
theorem dX5_solve_62 : decode cX5_solve 62 = .ok (.iload_n 1, 1) := by decide +kernel
theorem dX5_solve_63 : decode cX5_solve 63 = .ok (.bipush 36, 2) := by decide +kernel
theorem dX5_solve_65 : decode cX5_solve 65 = .ok (.irem, 1) := by decide +kernel
theorem dX5_solve_66 : decode cX5_solve 66 = .ok (.bipush 18, 2) := by decide +kernel
theorem dX5_solve_68 : decode cX5_solve 68 = .ok (.if_icmp .lt 7, 3) := by decide +kernel
theorem dX5_solve_71 : decode cX5_solve 71 = .ok (.iconst 1, 1) := by decide +kernel
theorem dX5_solve_72 : decode cX5_solve 72 = .ok (.goto 4, 3) := by decide +kernel
theorem dX5_solve_75 : decode cX5_solve 75 = .ok (.iconst 0, 1) := by decide +kernel
theorem dX5_solve_76 : decode cX5_solve 76 = .ok (.iload_n 3, 1) := by decide +kernel
theorem dX5_solve_77 : decode cX5_solve 77 = .ok (.invokevirtual 117, 3) := by decide +kernel
theorem dX5_solve_80 : decode cX5_solve 80 = .ok (.aload_n 0, 1) := by decide +kernel
theorem dX5_solve_81 : decode cX5_solve 81 = .ok (.getfield 59, 3) := by decide +kernel
theorem dX5_solve_84 : decode cX5_solve 84 = .ok (.iload_n 1, 1) := by decide +kernel
theorem dX5_solve_85 : decode cX5_solve 85 = .ok (.aload_n 0, 1) := by decide +kernel
theorem dX5_solve_86 : decode cX5_solve 86 = .ok (.getfield 56, 3) := by decide +kernel
theorem dX5_solve_89 : decode cX5_solve 89 = .ok (.iconst 4, 1) := by decide +kernel
theorem dX5_solve_90 : decode cX5_solve 90 = .ok (.iload_n 1, 1) := by decide +kernel
theorem dX5_solve_91 : decode cX5_solve 91 = .ok (.imul, 1) := by decide +kernel
theorem dX5_solve_92 : decode cX5_solve 92 = .ok (.iaload, 1) := by decide +kernel
theorem dX5_solve_93 : decode cX5_solve 93 = .ok (.iconst (-1), 1) := by decide +kernel
theorem dX5_solve_94 : decode cX5_solve 94 = .ok (.if_icmp .ne 7, 3) := by decide +kernel
theorem dX5_solve_97 : decode cX5_solve 97 = .ok (.iconst (-1), 1) := by decide +kernel
theorem dX5_solve_98 : decode cX5_solve 98 = .ok (.goto 4, 3) := by decide +kernel
theorem dX5_solve_101 : decode cX5_solve 101 = .ok (.iconst 0, 1) := by decide +kernel
theorem dX5_solve_102 : decode cX5_solve 102 = .ok (.iastore, 1) := by decide +kernel
theorem dX5_solve_103 : decode cX5_solve 103 = .ok (.iinc 1 1, 3) := by decide +kernel
theorem dX5_solve_106 : decode cX5_solve 106 = .ok (.goto (-91), 3) := by decide +kernel
theorem dX5_solve_109 : decode cX5_solve 109 = .ok (.iconst 1, 1) := by decide +kernel
theorem dX5_solve_110 : decode cX5_solve 110 = .ok (.istore_n 1, 1) := by decide +kernel
theorem dX5_solve_111 : decode cX5_solve 111 = .ok (.iconst 1, 1) := by decide +kernel
theorem dX5_solve_112 : decode cX5_solve 112 = .ok (.istore_n 2, 1) := by decide +kernel
theorem dX5_solve_113 : decode cX5_solve 113 = .ok (.iload_n 1, 1) := by decide +kernel
theorem dX5_solve_114 : decode cX5_solve 114 = .ok (.ifCond .eq 66, 3) := by decide +kernel
theorem dX5_solve_117 : decode cX5_solve 117 = .ok (.iconst 0, 1) := by decide +kernel
theorem dX5_solve_118 : decode cX5_solve 118 = .ok (.istore_n 1, 1) := by decide +kernel
theorem dX5_solve_119 : decode cX5_solve 119 = .ok (.iconst 0, 1) := by decide +kernel
theorem dX5_solve_120 : decode cX5_solve 120 = .ok (.istore_n 3, 1) := by decide +kernel
theorem dX5_solve_121 : decode cX5_solve 121 = .ok (.iload_n 3, 1) := by decide +kernel
theorem dX5_solve_122 : decode cX5_solve 122 = .ok (.sipush 2592, 3) := by decide +kernel
theorem dX5_solve_125 : decode cX5_solve 125 = .ok (.if_icmp .ge 49, 3) := by decide +kernel
theorem dX5_solve_128 : decode cX5_solve 128 = .ok (.aload_n 0, 1) := by decide +kernel
theorem dX5_solve_129 : decode cX5_solve 129 = .ok (.getfield 59, 3) := by decide +kernel
theorem dX5_solve_132 : decode cX5_solve 132 = .ok (.iload_n 3, 1) := by decide +kernel
theorem dX5_solve_133 : decode cX5_solve 133 = .ok (.iaload, 1) := by decide +kernel
theorem dX5_solve_134 : decode cX5_solve 134 = .ok (.ifCond .ne 34, 3) := by decide +kernel
theorem dX5_solve_137 : decode cX5_solve 137 = .ok (.aload_n 0, 1) := by decide +kernel
theorem dX5_solve_138 : decode cX5_solve 138 = .ok (.iload_n 3, 1) := by decide +kernel
theorem dX5_solve_139 : decode cX5_solve 139 = .ok (.iload_n 2, 1) := by decide +kernel
theorem dX5_solve_140 : decode cX5_solve 140 = .ok (.invokevirtual 121, 3) := by decide +kernel
theorem dX5_solve_143 : decode cX5_solve 143 = .ok (.istore 4, 2) := by decide +kernel
theorem dX5_solve_145 : decode cX5_solve 145 = .ok (.aload_n 0, 1) := by decide +kernel
theorem dX5_solve_146 : decode cX5_solve 146 = .ok (.getfield 59, 3) := by decide +kernel
theorem dX5_solve_149 : decode cX5_solve 149 = .ok (.iload_n 3, 1) := by decide +kernel
theorem dX5_solve_150 : decode cX5_solve 150 = .ok (.iload 4, 2) := by decide +kernel
theorem dX5_solve_152 : decode cX5_solve 152 = .ok (.iastore, 1) := by decide +kernel
theorem dX5_solve_153 : decode cX5_solve 153 = .ok (.iload_n 1, 1) := by decide +kernel
theorem dX5_solve_154 : decode cX5_solve 154 = .ok (.ifCond .ne 8, 3) := by decide +kernel
theorem dX5_solve_157 : decode cX5_solve 157 = .ok (.iload 4, 2) := by decide +kernel
theorem dX5_solve_159 : decode cX5_solve 159 = .ok (.ifCond .eq 7, 3) := by decide +kernel
theorem dX5_solve_162 : decode cX5_solve 162 = .ok (.iconst 1, 1) := by decide +kernel
theorem dX5_solve_163 : decode cX5_solve 163 = .ok (.goto 4, 3) := by decide +kernel
theorem dX5_solve_166 : decode cX5_solve 166 = .ok (.iconst 0, 1) := by decide +kernel
theorem dX5_solve_167 : decode cX5_solve 167 = .ok (.istore_n 1, 1) := by decide +kernel
theorem dX5_solve_168 : decode cX5_solve 168 = .ok (.iinc 3 1, 3) := by decide +kernel
theorem dX5_solve_171 : decode cX5_solve 171 = .ok (.goto (-50), 3) := by decide +kernel
theorem dX5_solve_174 : decode cX5_solve 174 = .ok (.iinc 2 1, 3) := by decide +kernel
theorem dX5_solve_177 : decode cX5_solve 177 = .ok (.goto (-64), 3) := by decide +kernel
theorem dX5_solve_180 : decode cX5_solve 180 = .ok (.return_, 1) := by decide +kernel
set_option maxRecDepth 20000 in
set_option maxRecDepth 100000 in
theorem ggX5_judge_X5_someLost : GoodIn wsX5_judge wsX5_someLost := goodIn_r _ [5, 6, 7, 12, 13, 14, 15, 16, 17, 18, 19, 20, 21, 22, 23, 24, 25, 26, 27, 28, 29, 30, 31] (by rfl) (by decide +kernel)
set_option maxRecDepth 20000 in
theorem gX5_judge_X5_someLost : GoodIn wsX5_judge (wsV RX5 125 RX5 yX5_someLost wsX5_someLost) := goodIn_app (goodIn_of _ (by decide +kernel)) ggX5_judge_X5_someLost
set_option maxRecDepth 20000 in
set_option maxRecDepth 100000 in
theorem ggX5_judge_X5_allWon : GoodIn wsX5_judge wsX5_allWon := goodIn_r _ [11, 6, 7, 12, 13, 14, 15, 16, 17, 18, 19, 20, 21, 22, 23, 24, 25, 26, 27, 28, 29, 30, 31] (by rfl) (by decide +kernel)
set_option maxRecDepth 20000 in
theorem gX5_judge_X5_allWon : GoodIn wsX5_judge (wsV RX5 128 RX5 yX5_allWon wsX5_allWon) := goodIn_app (goodIn_of _ (by decide +kernel)) ggX5_judge_X5_allWon
theorem dX5_judge_0 : decode cX5_judge 0 = .ok (.aload_n 0, 1) := by decide +kernel
theorem dX5_judge_1 : decode cX5_judge 1 = .ok (.iload_n 1, 1) := by decide +kernel
theorem dX5_judge_2 : decode cX5_judge 2 = .ok (.iload_n 2, 1) := by decide +kernel
theorem dX5_judge_3 : decode cX5_judge 3 = .ok (.iconst 1, 1) := by decide +kernel
theorem dX5_judge_4 : decode cX5_judge 4 = .ok (.isub, 1) := by decide +kernel
theorem dX5_judge_5 : decode cX5_judge 5 = .ok (.invokevirtual 125, 3) := by decide +kernel
theorem dX5_judge_8 : decode cX5_judge 8 = .ok (.ifCond .eq 7, 3) := by decide +kernel
theorem dX5_judge_11 : decode cX5_judge 11 = .ok (.iload_n 2, 1) := by decide +kernel
theorem dX5_judge_12 : decode cX5_judge 12 = .ok (.iconst 1, 1) := by decide +kernel
theorem dX5_judge_13 : decode cX5_judge 13 = .ok (.iadd, 1) := by decide +kernel
theorem dX5_judge_14 : decode cX5_judge 14 = .ok (.ireturn, 1) := by decide +kernel
theorem dX5_judge_15 : decode cX5_judge 15 = .ok (.aload_n 0, 1) := by decide +kernel
theorem dX5_judge_16 : decode cX5_judge 16 = .ok (.iload_n 1, 1) := by decide +kernel
theorem dX5_judge_17 : decode cX5_judge 17 = .ok (.invokevirtual 128, 3) := by decide +kernel
theorem dX5_judge_20 : decode cX5_judge 20 = .ok (.iload_n 2, 1) := by decide +kernel
theorem dX5_judge_21 : decode cX5_judge 21 = .ok (.iconst 1, 1) := by decide +kernel
theorem dX5_judge_22 : decode cX5_judge 22 = .ok (.isub, 1) := by decide +kernel
theorem dX5_judge_23 : decode cX5_judge 23 = .ok (.if_icmp .ne 10, 3) := by decide +kernel
theorem dX5_judge_26 : decode cX5_judge 26 = .ok (.iload_n 2, 1) := by decide +kernel
theorem dX5_judge_27 : decode cX5_judge 27 = .ok (.ineg, 1) := by decide +kernel
theorem dX5_judge_28 : decode cX5_judge 28 = .ok (.iconst 1, 1) := by decide +kernel
theorem dX5_judge_29 : decode cX5_judge 29 = .ok (.isub, 1) := by decide +kernel
theorem dX5_judge_30 : decode cX5_judge 30 = .ok (.goto 4, 3) := by decide +kernel
theorem dX5_judge_33 : decode cX5_judge 33 = .ok (.iconst 0, 1) := by decide +kernel
theorem dX5_judge_34 : decode cX5_judge 34 = .ok (.ireturn, 1) := by decide +kernel
set_option maxRecDepth 20000 in
set_option maxRecDepth 100000 in
theorem ggX5_ending_X5_sideOf : GoodIn wsX5_ending wsX5_sideOf := goodIn_r _ [6] (by rfl) (by decide +kernel)
set_option maxRecDepth 20000 in
theorem gX5_ending_X5_sideOf : GoodIn wsX5_ending (va_wsS RX5 90 yX5_sideOf wsX5_sideOf) := goodIn_app (goodIn_of _ (by decide +kernel)) ggX5_ending_X5_sideOf
set_option maxRecDepth 20000 in
set_option maxRecDepth 100000 in
theorem ggX5_ending_X5_isKing : GoodIn wsX5_ending wsX5_isKing := goodIn_r _ [9] (by rfl) (by decide +kernel)
set_option maxRecDepth 20000 in
theorem gX5_ending_X5_isKing : GoodIn wsX5_ending (va_wsS RX5 73 yX5_isKing wsX5_isKing) := goodIn_app (goodIn_of _ (by decide +kernel)) ggX5_ending_X5_isKing
set_option maxRecDepth 20000 in
set_option maxRecDepth 100000 in
theorem ggX5_ending_X5_code : GoodIn wsX5_ending wsX5_code := goodIn_r _ [12] (by rfl) (by decide +kernel)
set_option maxRecDepth 20000 in
theorem gX5_ending_X5_code : GoodIn wsX5_ending (va_wsS RX5 109 yX5_code wsX5_code) := goodIn_app (goodIn_of _ (by decide +kernel)) ggX5_ending_X5_code
theorem dX5_ending_0 : decode cX5_ending 0 = .ok (.iconst (-1), 1) := by decide +kernel
theorem dX5_ending_1 : decode cX5_ending 1 = .ok (.istore_n 2, 1) := by decide +kernel
theorem dX5_ending_2 : decode cX5_ending 2 = .ok (.iconst (-1), 1) := by decide +kernel
theorem dX5_ending_3 : decode cX5_ending 3 = .ok (.istore_n 3, 1) := by decide +kernel
theorem dX5_ending_4 : decode cX5_ending 4 = .ok (.iconst 0, 1) := by decide +kernel
theorem dX5_ending_5 : decode cX5_ending 5 = .ok (.istore 4, 2) := by decide +kernel
theorem dX5_ending_7 : decode cX5_ending 7 = .ok (.iconst 0, 1) := by decide +kernel
theorem dX5_ending_8 : decode cX5_ending 8 = .ok (.istore 5, 2) := by decide +kernel
theorem dX5_ending_10 : decode cX5_ending 10 = .ok (.iload 5, 2) := by decide +kernel
theorem dX5_ending_12 : decode cX5_ending 12 = .ok (.bipush 18, 2) := by decide +kernel
theorem dX5_ending_14 : decode cX5_ending 14 = .ok (.if_icmp .ge 80, 3) := by decide +kernel
theorem dX5_ending_17 : decode cX5_ending 17 = .ok (.aload_n 0, 1) := by decide +kernel
theorem dX5_ending_18 : decode cX5_ending 18 = .ok (.getfield 7, 3) := by decide +kernel
theorem dX5_ending_21 : decode cX5_ending 21 = .ok (.bipush 18, 2) := by decide +kernel
theorem dX5_ending_23 : decode cX5_ending 23 = .ok (.iload_n 1, 1) := by decide +kernel
theorem dX5_ending_24 : decode cX5_ending 24 = .ok (.imul, 1) := by decide +kernel
theorem dX5_ending_25 : decode cX5_ending 25 = .ok (.iload 5, 2) := by decide +kernel
theorem dX5_ending_27 : decode cX5_ending 27 = .ok (.iadd, 1) := by decide +kernel
theorem dX5_ending_28 : decode cX5_ending 28 = .ok (.iaload, 1) := by decide +kernel
theorem dX5_ending_29 : decode cX5_ending 29 = .ok (.invokestatic 90, 3) := by decide +kernel
theorem dX5_ending_32 : decode cX5_ending 32 = .ok (.istore 6, 2) := by decide +kernel
theorem dX5_ending_34 : decode cX5_ending 34 = .ok (.iload 6, 2) := by decide +kernel
theorem dX5_ending_36 : decode cX5_ending 36 = .ok (.ifCond .lt 10, 3) := by decide +kernel
theorem dX5_ending_39 : decode cX5_ending 39 = .ok (.iload 4, 2) := by decide +kernel
theorem dX5_ending_41 : decode cX5_ending 41 = .ok (.iconst 1, 1) := by decide +kernel
theorem dX5_ending_42 : decode cX5_ending 42 = .ok (.iadd, 1) := by decide +kernel
theorem dX5_ending_43 : decode cX5_ending 43 = .ok (.goto 5, 3) := by decide +kernel
theorem dX5_ending_46 : decode cX5_ending 46 = .ok (.iload 4, 2) := by decide +kernel
theorem dX5_ending_48 : decode cX5_ending 48 = .ok (.istore 4, 2) := by decide +kernel
theorem dX5_ending_50 : decode cX5_ending 50 = .ok (.iload 6, 2) := by decide +kernel
theorem dX5_ending_52 : decode cX5_ending 52 = .ok (.aload_n 0, 1) := by decide +kernel
theorem dX5_ending_53 : decode cX5_ending 53 = .ok (.getfield 13, 3) := by decide +kernel
theorem dX5_ending_56 : decode cX5_ending 56 = .ok (.iload_n 1, 1) := by decide +kernel
theorem dX5_ending_57 : decode cX5_ending 57 = .ok (.iaload, 1) := by decide +kernel
theorem dX5_ending_58 : decode cX5_ending 58 = .ok (.if_icmp .ne 8, 3) := by decide +kernel
theorem dX5_ending_61 : decode cX5_ending 61 = .ok (.iload 5, 2) := by decide +kernel
theorem dX5_ending_63 : decode cX5_ending 63 = .ok (.goto 4, 3) := by decide +kernel
theorem dX5_ending_66 : decode cX5_ending 66 = .ok (.iload_n 2, 1) := by decide +kernel
theorem dX5_ending_67 : decode cX5_ending 67 = .ok (.istore_n 2, 1) := by decide +kernel
theorem dX5_ending_68 : decode cX5_ending 68 = .ok (.iload 6, 2) := by decide +kernel
theorem dX5_ending_70 : decode cX5_ending 70 = .ok (.iconst 1, 1) := by decide +kernel
theorem dX5_ending_71 : decode cX5_ending 71 = .ok (.aload_n 0, 1) := by decide +kernel
theorem dX5_ending_72 : decode cX5_ending 72 = .ok (.getfield 13, 3) := by decide +kernel
theorem dX5_ending_75 : decode cX5_ending 75 = .ok (.iload_n 1, 1) := by decide +kernel
theorem dX5_ending_76 : decode cX5_ending 76 = .ok (.iaload, 1) := by decide +kernel
theorem dX5_ending_77 : decode cX5_ending 77 = .ok (.isub, 1) := by decide +kernel
theorem dX5_ending_78 : decode cX5_ending 78 = .ok (.if_icmp .ne 8, 3) := by decide +kernel
theorem dX5_ending_81 : decode cX5_ending 81 = .ok (.iload 5, 2) := by decide +kernel
theorem dX5_ending_83 : decode cX5_ending 83 = .ok (.goto 4, 3) := by decide +kernel
theorem dX5_ending_86 : decode cX5_ending 86 = .ok (.iload_n 3, 1) := by decide +kernel
theorem dX5_ending_87 : decode cX5_ending 87 = .ok (.istore_n 3, 1) := by decide +kernel
theorem dX5_ending_88 : decode cX5_ending 88 = .ok (.iinc 5 1, 3) := by decide +kernel
theorem dX5_ending_91 : decode cX5_ending 91 = .ok (.goto (-81), 3) := by decide +kernel
theorem dX5_ending_94 : decode cX5_ending 94 = .ok (.iload 4, 2) := by decide +kernel
theorem dX5_ending_96 : decode cX5_ending 96 = .ok (.iconst 2, 1) := by decide +kernel
theorem dX5_ending_97 : decode cX5_ending 97 = .ok (.if_icmp .ne 11, 3) := by decide +kernel
theorem dX5_ending_100 : decode cX5_ending 100 = .ok (.iload_n 2, 1) := by decide +kernel
theorem dX5_ending_101 : decode cX5_ending 101 = .ok (.ifCond .lt 7, 3) := by decide +kernel
theorem dX5_ending_104 : decode cX5_ending 104 = .ok (.iload_n 3, 1) := by decide +kernel
theorem dX5_ending_105 : decode cX5_ending 105 = .ok (.ifCond .ge 5, 3) := by decide +kernel
theorem dX5_ending_108 : decode cX5_ending 108 = .ok (.iconst (-1), 1) := by decide +kernel
theorem dX5_ending_109 : decode cX5_ending 109 = .ok (.ireturn, 1) := by decide +kernel
theorem dX5_ending_110 : decode cX5_ending 110 = .ok (.aload_n 0, 1) := by decide +kernel
theorem dX5_ending_111 : decode cX5_ending 111 = .ok (.getfield 13, 3) := by decide +kernel
theorem dX5_ending_114 : decode cX5_ending 114 = .ok (.iload_n 1, 1) := by decide +kernel
theorem dX5_ending_115 : decode cX5_ending 115 = .ok (.iaload, 1) := by decide +kernel
theorem dX5_ending_116 : decode cX5_ending 116 = .ok (.aload_n 0, 1) := by decide +kernel
theorem dX5_ending_117 : decode cX5_ending 117 = .ok (.getfield 7, 3) := by decide +kernel
theorem dX5_ending_120 : decode cX5_ending 120 = .ok (.bipush 18, 2) := by decide +kernel
theorem dX5_ending_122 : decode cX5_ending 122 = .ok (.iload_n 1, 1) := by decide +kernel
theorem dX5_ending_123 : decode cX5_ending 123 = .ok (.imul, 1) := by decide +kernel
theorem dX5_ending_124 : decode cX5_ending 124 = .ok (.iload_n 2, 1) := by decide +kernel
theorem dX5_ending_125 : decode cX5_ending 125 = .ok (.iadd, 1) := by decide +kernel
theorem dX5_ending_126 : decode cX5_ending 126 = .ok (.iaload, 1) := by decide +kernel
theorem dX5_ending_127 : decode cX5_ending 127 = .ok (.invokestatic 73, 3) := by decide +kernel
theorem dX5_ending_130 : decode cX5_ending 130 = .ok (.iload_n 2, 1) := by decide +kernel
theorem dX5_ending_131 : decode cX5_ending 131 = .ok (.aload_n 0, 1) := by decide +kernel
theorem dX5_ending_132 : decode cX5_ending 132 = .ok (.getfield 7, 3) := by decide +kernel
theorem dX5_ending_135 : decode cX5_ending 135 = .ok (.bipush 18, 2) := by decide +kernel
theorem dX5_ending_137 : decode cX5_ending 137 = .ok (.iload_n 1, 1) := by decide +kernel
theorem dX5_ending_138 : decode cX5_ending 138 = .ok (.imul, 1) := by decide +kernel
theorem dX5_ending_139 : decode cX5_ending 139 = .ok (.iload_n 3, 1) := by decide +kernel
theorem dX5_ending_140 : decode cX5_ending 140 = .ok (.iadd, 1) := by decide +kernel
theorem dX5_ending_141 : decode cX5_ending 141 = .ok (.iaload, 1) := by decide +kernel
theorem dX5_ending_142 : decode cX5_ending 142 = .ok (.invokestatic 73, 3) := by decide +kernel
theorem dX5_ending_145 : decode cX5_ending 145 = .ok (.iload_n 3, 1) := by decide +kernel
theorem dX5_ending_146 : decode cX5_ending 146 = .ok (.invokestatic 109, 3) := by decide +kernel
theorem dX5_ending_149 : decode cX5_ending 149 = .ok (.ireturn, 1) := by decide +kernel
set_option maxRecDepth 20000 in
set_option maxRecDepth 100000 in
theorem ggX5_verdict_X5_ending : GoodIn wsX5_verdict wsX5_ending := goodIn_r _ [6, 7, 8, 9, 10, 5, 11, 12, 13, 14, 15, 16, 17, 48, 49, 50, 51, 52, 53, 54, 55, 56, 57, 58, 59, 60, 61, 62, 63, 64, 65, 66, 67] (by rfl) (by decide +kernel)
set_option maxRecDepth 20000 in
theorem gX5_verdict_X5_ending : GoodIn wsX5_verdict (wsV RX5 131 RX5 yX5_ending wsX5_ending) := goodIn_app (goodIn_of _ (by decide +kernel)) ggX5_verdict_X5_ending
set_option maxRecDepth 20000 in
set_option maxRecDepth 100000 in
theorem ggX5_verdict_X5_solve : GoodIn wsX5_verdict wsX5_solve := goodIn_r _ [21, 22, 1, 23, 24, 25, 26, 5, 27, 28, 29, 15, 16, 17, 30, 31, 32, 33, 34, 35, 36, 37, 38, 39, 40, 41, 42, 43, 44, 45, 46, 47, 48, 49, 50, 51, 52, 53, 54, 55, 56, 57, 58, 59, 60, 61, 62, 63, 64, 65, 66, 67] (by rfl) (by decide +kernel)
set_option maxRecDepth 20000 in
theorem gX5_verdict_X5_solve : GoodIn wsX5_verdict (wsV RX5 134 RX5 yX5_solve wsX5_solve) := goodIn_app (goodIn_of _ (by decide +kernel)) ggX5_verdict_X5_solve
theorem dX5_verdict_0 : decode cX5_verdict 0 = .ok (.aload_n 0, 1) := by decide +kernel
theorem dX5_verdict_1 : decode cX5_verdict 1 = .ok (.iconst 0, 1) := by decide +kernel
theorem dX5_verdict_2 : decode cX5_verdict 2 = .ok (.invokevirtual 131, 3) := by decide +kernel
theorem dX5_verdict_5 : decode cX5_verdict 5 = .ok (.istore_n 1, 1) := by decide +kernel
theorem dX5_verdict_6 : decode cX5_verdict 6 = .ok (.iload_n 1, 1) := by decide +kernel
theorem dX5_verdict_7 : decode cX5_verdict 7 = .ok (.ifCond .ge 7, 3) := by decide +kernel
theorem dX5_verdict_10 : decode cX5_verdict 10 = .ok (.sipush (-2000), 3) := by decide +kernel
theorem dX5_verdict_13 : decode cX5_verdict 13 = .ok (.ireturn, 1) := by decide +kernel
theorem dX5_verdict_14 : decode cX5_verdict 14 = .ok (.aload_n 0, 1) := by decide +kernel
theorem dX5_verdict_15 : decode cX5_verdict 15 = .ok (.invokevirtual 134, 3) := by decide +kernel
theorem dX5_verdict_18 : decode cX5_verdict 18 = .ok (.aload_n 0, 1) := by decide +kernel
theorem dX5_verdict_19 : decode cX5_verdict 19 = .ok (.getfield 59, 3) := by decide +kernel
theorem dX5_verdict_22 : decode cX5_verdict 22 = .ok (.iload_n 1, 1) := by decide +kernel
theorem dX5_verdict_23 : decode cX5_verdict 23 = .ok (.iaload, 1) := by decide +kernel
theorem dX5_verdict_24 : decode cX5_verdict 24 = .ok (.istore_n 2, 1) := by decide +kernel
theorem dX5_verdict_25 : decode cX5_verdict 25 = .ok (.iload_n 2, 1) := by decide +kernel
theorem dX5_verdict_26 : decode cX5_verdict 26 = .ok (.iconst (-1), 1) := by decide +kernel
theorem dX5_verdict_27 : decode cX5_verdict 27 = .ok (.if_icmp .ne 8, 3) := by decide +kernel
theorem dX5_verdict_30 : decode cX5_verdict 30 = .ok (.bipush (-100), 2) := by decide +kernel
theorem dX5_verdict_32 : decode cX5_verdict 32 = .ok (.goto 24, 3) := by decide +kernel
theorem dX5_verdict_35 : decode cX5_verdict 35 = .ok (.iload_n 2, 1) := by decide +kernel
theorem dX5_verdict_36 : decode cX5_verdict 36 = .ok (.ifCond .le 9, 3) := by decide +kernel
theorem dX5_verdict_39 : decode cX5_verdict 39 = .ok (.iload_n 2, 1) := by decide +kernel
theorem dX5_verdict_40 : decode cX5_verdict 40 = .ok (.iconst 1, 1) := by decide +kernel
theorem dX5_verdict_41 : decode cX5_verdict 41 = .ok (.isub, 1) := by decide +kernel
theorem dX5_verdict_42 : decode cX5_verdict 42 = .ok (.goto 14, 3) := by decide +kernel
theorem dX5_verdict_45 : decode cX5_verdict 45 = .ok (.iload_n 2, 1) := by decide +kernel
theorem dX5_verdict_46 : decode cX5_verdict 46 = .ok (.ifCond .ge 9, 3) := by decide +kernel
theorem dX5_verdict_49 : decode cX5_verdict 49 = .ok (.iload_n 2, 1) := by decide +kernel
theorem dX5_verdict_50 : decode cX5_verdict 50 = .ok (.iconst 1, 1) := by decide +kernel
theorem dX5_verdict_51 : decode cX5_verdict 51 = .ok (.iadd, 1) := by decide +kernel
theorem dX5_verdict_52 : decode cX5_verdict 52 = .ok (.goto 4, 3) := by decide +kernel
theorem dX5_verdict_55 : decode cX5_verdict 55 = .ok (.iconst 0, 1) := by decide +kernel
theorem dX5_verdict_56 : decode cX5_verdict 56 = .ok (.ireturn, 1) := by decide +kernel
set_option maxRecDepth 20000 in
set_option maxRecDepth 100000 in
theorem ggX5_material_X5_isKing : GoodIn wsX5_material wsX5_isKing := goodIn_r _ [6] (by rfl) (by decide +kernel)
set_option maxRecDepth 20000 in
theorem gX5_material_X5_isKing : GoodIn wsX5_material (va_wsS RX5 73 yX5_isKing wsX5_isKing) := goodIn_app (goodIn_of _ (by decide +kernel)) ggX5_material_X5_isKing
set_option maxRecDepth 20000 in
set_option maxRecDepth 100000 in
theorem ggX5_material_X5_sideOf : GoodIn wsX5_material wsX5_sideOf := goodIn_r _ [9] (by rfl) (by decide +kernel)
set_option maxRecDepth 20000 in
theorem gX5_material_X5_sideOf : GoodIn wsX5_material (va_wsS RX5 90 yX5_sideOf wsX5_sideOf) := goodIn_app (goodIn_of _ (by decide +kernel)) ggX5_material_X5_sideOf
theorem dX5_material_0 : decode cX5_material 0 = .ok (.iconst 0, 1) := by decide +kernel
theorem dX5_material_1 : decode cX5_material 1 = .ok (.istore_n 2, 1) := by decide +kernel
theorem dX5_material_2 : decode cX5_material 2 = .ok (.iconst 0, 1) := by decide +kernel
theorem dX5_material_3 : decode cX5_material 3 = .ok (.istore_n 3, 1) := by decide +kernel
theorem dX5_material_4 : decode cX5_material 4 = .ok (.iload_n 3, 1) := by decide +kernel
theorem dX5_material_5 : decode cX5_material 5 = .ok (.bipush 18, 2) := by decide +kernel
theorem dX5_material_7 : decode cX5_material 7 = .ok (.if_icmp .ge 72, 3) := by decide +kernel
theorem dX5_material_10 : decode cX5_material 10 = .ok (.aload_n 0, 1) := by decide +kernel
theorem dX5_material_11 : decode cX5_material 11 = .ok (.getfield 7, 3) := by decide +kernel
theorem dX5_material_14 : decode cX5_material 14 = .ok (.bipush 18, 2) := by decide +kernel
theorem dX5_material_16 : decode cX5_material 16 = .ok (.iload_n 1, 1) := by decide +kernel
theorem dX5_material_17 : decode cX5_material 17 = .ok (.imul, 1) := by decide +kernel
theorem dX5_material_18 : decode cX5_material 18 = .ok (.iload_n 3, 1) := by decide +kernel
theorem dX5_material_19 : decode cX5_material 19 = .ok (.iadd, 1) := by decide +kernel
theorem dX5_material_20 : decode cX5_material 20 = .ok (.iaload, 1) := by decide +kernel
theorem dX5_material_21 : decode cX5_material 21 = .ok (.istore 4, 2) := by decide +kernel
theorem dX5_material_23 : decode cX5_material 23 = .ok (.iload 4, 2) := by decide +kernel
theorem dX5_material_25 : decode cX5_material 25 = .ok (.ifCond .ne 7, 3) := by decide +kernel
theorem dX5_material_28 : decode cX5_material 28 = .ok (.iconst 0, 1) := by decide +kernel
theorem dX5_material_29 : decode cX5_material 29 = .ok (.goto 16, 3) := by decide +kernel
