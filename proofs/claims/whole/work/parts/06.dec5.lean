theorem dX5_init_0 : decode cX5_init 0 = .ok (.aload_n 0, 1) := by decide +kernel
theorem dX5_init_1 : decode cX5_init 1 = .ok (.invokespecial 1, 3) := by decide +kernel
theorem dX5_init_4 : decode cX5_init 4 = .ok (.aload_n 0, 1) := by decide +kernel
theorem dX5_init_5 : decode cX5_init 5 = .ok (.sipush 1416, 3) := by decide +kernel
theorem dX5_init_8 : decode cX5_init 8 = .ok (.newarray .int, 2) := by decide +kernel
theorem dX5_init_10 : decode cX5_init 10 = .ok (.putfield 7, 3) := by decide +kernel
theorem dX5_init_13 : decode cX5_init 13 = .ok (.aload_n 0, 1) := by decide +kernel
theorem dX5_init_14 : decode cX5_init 14 = .ok (.bipush 60, 2) := by decide +kernel
theorem dX5_init_16 : decode cX5_init 16 = .ok (.newarray .int, 2) := by decide +kernel
theorem dX5_init_18 : decode cX5_init 18 = .ok (.putfield 13, 3) := by decide +kernel
theorem dX5_init_21 : decode cX5_init 21 = .ok (.aload_n 0, 1) := by decide +kernel
theorem dX5_init_22 : decode cX5_init 22 = .ok (.iconst (-1), 1) := by decide +kernel
theorem dX5_init_23 : decode cX5_init 23 = .ok (.putfield 16, 3) := by decide +kernel
theorem dX5_init_26 : decode cX5_init 26 = .ok (.aload_n 0, 1) := by decide +kernel
theorem dX5_init_27 : decode cX5_init 27 = .ok (.sipush 448, 3) := by decide +kernel
theorem dX5_init_30 : decode cX5_init 30 = .ok (.newarray .int, 2) := by decide +kernel
theorem dX5_init_32 : decode cX5_init 32 = .ok (.putfield 20, 3) := by decide +kernel
theorem dX5_init_35 : decode cX5_init 35 = .ok (.aload_n 0, 1) := by decide +kernel
theorem dX5_init_36 : decode cX5_init 36 = .ok (.bipush 6, 2) := by decide +kernel
theorem dX5_init_38 : decode cX5_init 38 = .ok (.newarray .int, 2) := by decide +kernel
theorem dX5_init_40 : decode cX5_init 40 = .ok (.putfield 23, 3) := by decide +kernel
theorem dX5_init_43 : decode cX5_init 43 = .ok (.aload_n 0, 1) := by decide +kernel
theorem dX5_init_44 : decode cX5_init 44 = .ok (.bipush 6, 2) := by decide +kernel
theorem dX5_init_46 : decode cX5_init 46 = .ok (.newarray .int, 2) := by decide +kernel
theorem dX5_init_48 : decode cX5_init 48 = .ok (.putfield 26, 3) := by decide +kernel
theorem dX5_init_51 : decode cX5_init 51 = .ok (.aload_n 0, 1) := by decide +kernel
theorem dX5_init_52 : decode cX5_init 52 = .ok (.getfield 7, 3) := by decide +kernel
theorem dX5_init_55 : decode cX5_init 55 = .ok (.iconst 0, 1) := by decide +kernel
theorem dX5_init_56 : decode cX5_init 56 = .ok (.iconst 1, 1) := by decide +kernel
theorem dX5_init_57 : decode cX5_init 57 = .ok (.iastore, 1) := by decide +kernel
theorem dX5_init_58 : decode cX5_init 58 = .ok (.aload_n 0, 1) := by decide +kernel
theorem dX5_init_59 : decode cX5_init 59 = .ok (.getfield 7, 3) := by decide +kernel
theorem dX5_init_62 : decode cX5_init 62 = .ok (.iconst 4, 1) := by decide +kernel
theorem dX5_init_63 : decode cX5_init 63 = .ok (.sipush 600, 3) := by decide +kernel
theorem dX5_init_66 : decode cX5_init 66 = .ok (.iastore, 1) := by decide +kernel
theorem dX5_init_67 : decode cX5_init 67 = .ok (.aload_n 0, 1) := by decide +kernel
theorem dX5_init_68 : decode cX5_init 68 = .ok (.getfield 7, 3) := by decide +kernel
theorem dX5_init_71 : decode cX5_init 71 = .ok (.bipush 12, 2) := by decide +kernel
theorem dX5_init_73 : decode cX5_init 73 = .ok (.iconst 2, 1) := by decide +kernel
theorem dX5_init_74 : decode cX5_init 74 = .ok (.iastore, 1) := by decide +kernel
theorem dX5_init_75 : decode cX5_init 75 = .ok (.aload_n 0, 1) := by decide +kernel
theorem dX5_init_76 : decode cX5_init 76 = .ok (.getfield 7, 3) := by decide +kernel
theorem dX5_init_79 : decode cX5_init 79 = .ok (.bipush 13, 2) := by decide +kernel
theorem dX5_init_81 : decode cX5_init 81 = .ok (.iconst 1, 1) := by decide +kernel
theorem dX5_init_82 : decode cX5_init 82 = .ok (.iastore, 1) := by decide +kernel
theorem dX5_init_83 : decode cX5_init 83 = .ok (.aload_n 0, 1) := by decide +kernel
theorem dX5_init_84 : decode cX5_init 84 = .ok (.getfield 7, 3) := by decide +kernel
theorem dX5_init_87 : decode cX5_init 87 = .ok (.bipush 14, 2) := by decide +kernel
theorem dX5_init_89 : decode cX5_init 89 = .ok (.bipush 10, 2) := by decide +kernel
theorem dX5_init_91 : decode cX5_init 91 = .ok (.iastore, 1) := by decide +kernel
theorem dX5_init_92 : decode cX5_init 92 = .ok (.iconst 0, 1) := by decide +kernel
theorem dX5_init_93 : decode cX5_init 93 = .ok (.istore_n 1, 1) := by decide +kernel
theorem dX5_init_94 : decode cX5_init 94 = .ok (.iload_n 1, 1) := by decide +kernel
theorem dX5_init_95 : decode cX5_init 95 = .ok (.bipush 36, 2) := by decide +kernel
theorem dX5_init_97 : decode cX5_init 97 = .ok (.if_icmp .ge 21, 3) := by decide +kernel
theorem dX5_init_100 : decode cX5_init 100 = .ok (.aload_n 0, 1) := by decide +kernel
theorem dX5_init_101 : decode cX5_init 101 = .ok (.getfield 7, 3) := by decide +kernel
theorem dX5_init_104 : decode cX5_init 104 = .ok (.bipush 69, 2) := by decide +kernel
theorem dX5_init_106 : decode cX5_init 106 = .ok (.iconst 3, 1) := by decide +kernel
theorem dX5_init_107 : decode cX5_init 107 = .ok (.iload_n 1, 1) := by decide +kernel
theorem dX5_init_108 : decode cX5_init 108 = .ok (.imul, 1) := by decide +kernel
theorem dX5_init_109 : decode cX5_init 109 = .ok (.iadd, 1) := by decide +kernel
theorem dX5_init_110 : decode cX5_init 110 = .ok (.iconst (-1), 1) := by decide +kernel
theorem dX5_init_111 : decode cX5_init 111 = .ok (.iastore, 1) := by decide +kernel
theorem dX5_init_112 : decode cX5_init 112 = .ok (.iinc 1 1, 3) := by decide +kernel
theorem dX5_init_115 : decode cX5_init 115 = .ok (.goto (-21), 3) := by decide +kernel
theorem dX5_init_118 : decode cX5_init 118 = .ok (.iconst 0, 1) := by decide +kernel
theorem dX5_init_119 : decode cX5_init 119 = .ok (.istore_n 1, 1) := by decide +kernel
theorem dX5_init_120 : decode cX5_init 120 = .ok (.iload_n 1, 1) := by decide +kernel
theorem dX5_init_121 : decode cX5_init 121 = .ok (.bipush 6, 2) := by decide +kernel
theorem dX5_init_123 : decode cX5_init 123 = .ok (.if_icmp .ge 81, 3) := by decide +kernel
theorem dX5_init_126 : decode cX5_init 126 = .ok (.aload_n 0, 1) := by decide +kernel
theorem dX5_init_127 : decode cX5_init 127 = .ok (.getfield 7, 3) := by decide +kernel
theorem dX5_init_130 : decode cX5_init 130 = .ok (.bipush 15, 2) := by decide +kernel
theorem dX5_init_132 : decode cX5_init 132 = .ok (.iconst 5, 1) := by decide +kernel
theorem dX5_init_133 : decode cX5_init 133 = .ok (.iload_n 1, 1) := by decide +kernel
theorem dX5_init_134 : decode cX5_init 134 = .ok (.imul, 1) := by decide +kernel
theorem dX5_init_135 : decode cX5_init 135 = .ok (.iadd, 1) := by decide +kernel
theorem dX5_init_136 : decode cX5_init 136 = .ok (.iconst 0, 1) := by decide +kernel
theorem dX5_init_137 : decode cX5_init 137 = .ok (.iadd, 1) := by decide +kernel
theorem dX5_init_138 : decode cX5_init 138 = .ok (.iconst 5, 1) := by decide +kernel
theorem dX5_init_139 : decode cX5_init 139 = .ok (.iastore, 1) := by decide +kernel
theorem dX5_init_140 : decode cX5_init 140 = .ok (.aload_n 0, 1) := by decide +kernel
theorem dX5_init_141 : decode cX5_init 141 = .ok (.getfield 7, 3) := by decide +kernel
theorem dX5_init_144 : decode cX5_init 144 = .ok (.bipush 15, 2) := by decide +kernel
theorem dX5_init_146 : decode cX5_init 146 = .ok (.iconst 5, 1) := by decide +kernel
theorem dX5_init_147 : decode cX5_init 147 = .ok (.iload_n 1, 1) := by decide +kernel
theorem dX5_init_148 : decode cX5_init 148 = .ok (.imul, 1) := by decide +kernel
theorem dX5_init_149 : decode cX5_init 149 = .ok (.iadd, 1) := by decide +kernel
theorem dX5_init_150 : decode cX5_init 150 = .ok (.iconst 1, 1) := by decide +kernel
theorem dX5_init_151 : decode cX5_init 151 = .ok (.iadd, 1) := by decide +kernel
theorem dX5_init_152 : decode cX5_init 152 = .ok (.bipush 100, 2) := by decide +kernel
theorem dX5_init_154 : decode cX5_init 154 = .ok (.iastore, 1) := by decide +kernel
theorem dX5_init_155 : decode cX5_init 155 = .ok (.aload_n 0, 1) := by decide +kernel
theorem dX5_init_156 : decode cX5_init 156 = .ok (.getfield 7, 3) := by decide +kernel
theorem dX5_init_159 : decode cX5_init 159 = .ok (.bipush 15, 2) := by decide +kernel
theorem dX5_init_161 : decode cX5_init 161 = .ok (.iconst 5, 1) := by decide +kernel
theorem dX5_init_162 : decode cX5_init 162 = .ok (.iload_n 1, 1) := by decide +kernel
theorem dX5_init_163 : decode cX5_init 163 = .ok (.imul, 1) := by decide +kernel
theorem dX5_init_164 : decode cX5_init 164 = .ok (.iadd, 1) := by decide +kernel
theorem dX5_init_165 : decode cX5_init 165 = .ok (.iconst 2, 1) := by decide +kernel
theorem dX5_init_166 : decode cX5_init 166 = .ok (.iadd, 1) := by decide +kernel
theorem dX5_init_167 : decode cX5_init 167 = .ok (.iconst (-1), 1) := by decide +kernel
theorem dX5_init_168 : decode cX5_init 168 = .ok (.iastore, 1) := by decide +kernel
theorem dX5_init_169 : decode cX5_init 169 = .ok (.aload_n 0, 1) := by decide +kernel
theorem dX5_init_170 : decode cX5_init 170 = .ok (.getfield 7, 3) := by decide +kernel
theorem dX5_init_173 : decode cX5_init 173 = .ok (.bipush 15, 2) := by decide +kernel
theorem dX5_init_175 : decode cX5_init 175 = .ok (.iconst 5, 1) := by decide +kernel
theorem dX5_init_176 : decode cX5_init 176 = .ok (.iload_n 1, 1) := by decide +kernel
theorem dX5_init_177 : decode cX5_init 177 = .ok (.imul, 1) := by decide +kernel
theorem dX5_init_178 : decode cX5_init 178 = .ok (.iadd, 1) := by decide +kernel
theorem dX5_init_179 : decode cX5_init 179 = .ok (.iconst 3, 1) := by decide +kernel
theorem dX5_init_180 : decode cX5_init 180 = .ok (.iadd, 1) := by decide +kernel
theorem dX5_init_181 : decode cX5_init 181 = .ok (.iconst (-1), 1) := by decide +kernel
theorem dX5_init_182 : decode cX5_init 182 = .ok (.iastore, 1) := by decide +kernel
theorem dX5_init_183 : decode cX5_init 183 = .ok (.aload_n 0, 1) := by decide +kernel
theorem dX5_init_184 : decode cX5_init 184 = .ok (.getfield 7, 3) := by decide +kernel
theorem dX5_init_187 : decode cX5_init 187 = .ok (.bipush 45, 2) := by decide +kernel
theorem dX5_init_189 : decode cX5_init 189 = .ok (.iconst 4, 1) := by decide +kernel
theorem dX5_init_190 : decode cX5_init 190 = .ok (.iload_n 1, 1) := by decide +kernel
theorem dX5_init_191 : decode cX5_init 191 = .ok (.imul, 1) := by decide +kernel
theorem dX5_init_192 : decode cX5_init 192 = .ok (.iadd, 1) := by decide +kernel
theorem dX5_init_193 : decode cX5_init 193 = .ok (.iconst 0, 1) := by decide +kernel
theorem dX5_init_194 : decode cX5_init 194 = .ok (.iadd, 1) := by decide +kernel
theorem dX5_init_195 : decode cX5_init 195 = .ok (.bipush 100, 2) := by decide +kernel
theorem dX5_init_197 : decode cX5_init 197 = .ok (.iastore, 1) := by decide +kernel
theorem dX5_init_198 : decode cX5_init 198 = .ok (.iinc 1 1, 3) := by decide +kernel
theorem dX5_init_201 : decode cX5_init 201 = .ok (.goto (-81), 3) := by decide +kernel
theorem dX5_init_204 : decode cX5_init 204 = .ok (.return_, 1) := by decide +kernel
theorem dX5_thrown_0 : decode cX5_thrown 0 = .ok (.aload_n 0, 1) := by decide +kernel
theorem dX5_thrown_1 : decode cX5_thrown 1 = .ok (.getfield 29, 3) := by decide +kernel
theorem dX5_thrown_4 : decode cX5_thrown 4 = .ok (.ireturn, 1) := by decide +kernel
theorem dX5_in_0 : decode cX5_in 0 = .ok (.iload_n 0, 1) := by decide +kernel
theorem dX5_in_1 : decode cX5_in 1 = .ok (.iload_n 1, 1) := by decide +kernel
theorem dX5_in_2 : decode cX5_in 2 = .ok (.if_icmp .lt 12, 3) := by decide +kernel
theorem dX5_in_5 : decode cX5_in 5 = .ok (.iload_n 0, 1) := by decide +kernel
theorem dX5_in_6 : decode cX5_in 6 = .ok (.iload_n 2, 1) := by decide +kernel
theorem dX5_in_7 : decode cX5_in 7 = .ok (.if_icmp .gt 7, 3) := by decide +kernel
theorem dX5_in_10 : decode cX5_in 10 = .ok (.iconst 1, 1) := by decide +kernel
theorem dX5_in_11 : decode cX5_in 11 = .ok (.goto 4, 3) := by decide +kernel
theorem dX5_in_14 : decode cX5_in 14 = .ok (.iconst 0, 1) := by decide +kernel
theorem dX5_in_15 : decode cX5_in 15 = .ok (.ireturn, 1) := by decide +kernel
theorem dX5_holds_0 : decode cX5_holds 0 = .ok (.aload_n 0, 1) := by decide +kernel
theorem dX5_holds_1 : decode cX5_holds 1 = .ok (.iload_n 1, 1) := by decide +kernel
theorem dX5_holds_2 : decode cX5_holds 2 = .ok (.putfield 29, 3) := by decide +kernel
theorem dX5_holds_5 : decode cX5_holds 5 = .ok (.iload_n 1, 1) := by decide +kernel
theorem dX5_holds_6 : decode cX5_holds 6 = .ok (.ifCond .ne 7, 3) := by decide +kernel
theorem dX5_holds_9 : decode cX5_holds 9 = .ok (.iconst 1, 1) := by decide +kernel
theorem dX5_holds_10 : decode cX5_holds 10 = .ok (.goto 4, 3) := by decide +kernel
theorem dX5_holds_13 : decode cX5_holds 13 = .ok (.iconst 0, 1) := by decide +kernel
theorem dX5_holds_14 : decode cX5_holds 14 = .ok (.ireturn, 1) := by decide +kernel
set_option maxRecDepth 20000 in
theorem ggX5_isOne_X5_in : GoodIn wsX5_isOne wsX5_in := goodIn_r _ [4] (by decide +kernel) (by decide +kernel)
set_option maxRecDepth 20000 in
theorem gX5_isOne_X5_in : GoodIn wsX5_isOne (va_wsS RX5 32 yX5_in wsX5_in) := goodIn_app (goodIn_of _ (by decide +kernel)) ggX5_isOne_X5_in
theorem dX5_isOne_0 : decode cX5_isOne 0 = .ok (.iload_n 0, 1) := by decide +kernel
theorem dX5_isOne_1 : decode cX5_isOne 1 = .ok (.iconst 0, 1) := by decide +kernel
theorem dX5_isOne_2 : decode cX5_isOne 2 = .ok (.iconst 5, 1) := by decide +kernel
theorem dX5_isOne_3 : decode cX5_isOne 3 = .ok (.invokestatic 32, 3) := by decide +kernel
theorem dX5_isOne_6 : decode cX5_isOne 6 = .ok (.ireturn, 1) := by decide +kernel
set_option maxRecDepth 20000 in
theorem ggX5_isAmount_X5_in : GoodIn wsX5_isAmount wsX5_in := goodIn_r _ [4] (by decide +kernel) (by decide +kernel)
set_option maxRecDepth 20000 in
theorem gX5_isAmount_X5_in : GoodIn wsX5_isAmount (va_wsS RX5 32 yX5_in wsX5_in) := goodIn_app (goodIn_of _ (by decide +kernel)) ggX5_isAmount_X5_in
theorem dX5_isAmount_0 : decode cX5_isAmount 0 = .ok (.iload_n 0, 1) := by decide +kernel
theorem dX5_isAmount_1 : decode cX5_isAmount 1 = .ok (.iconst 1, 1) := by decide +kernel
theorem dX5_isAmount_2 : decode cX5_isAmount 2 = .ok (.bipush 99, 2) := by decide +kernel
theorem dX5_isAmount_4 : decode cX5_isAmount 4 = .ok (.invokestatic 32, 3) := by decide +kernel
theorem dX5_isAmount_7 : decode cX5_isAmount 7 = .ok (.ireturn, 1) := by decide +kernel
theorem dX5_of_0 : decode cX5_of 0 = .ok (.aload_n 0, 1) := by decide +kernel
theorem dX5_of_1 : decode cX5_of 1 = .ok (.getfield 7, 3) := by decide +kernel
theorem dX5_of_4 : decode cX5_of 4 = .ok (.bipush 15, 2) := by decide +kernel
theorem dX5_of_6 : decode cX5_of 6 = .ok (.iconst 5, 1) := by decide +kernel
theorem dX5_of_7 : decode cX5_of 7 = .ok (.iload_n 1, 1) := by decide +kernel
theorem dX5_of_8 : decode cX5_of 8 = .ok (.imul, 1) := by decide +kernel
theorem dX5_of_9 : decode cX5_of 9 = .ok (.iadd, 1) := by decide +kernel
theorem dX5_of_10 : decode cX5_of 10 = .ok (.iload_n 2, 1) := by decide +kernel
theorem dX5_of_11 : decode cX5_of 11 = .ok (.iadd, 1) := by decide +kernel
theorem dX5_of_12 : decode cX5_of 12 = .ok (.iaload, 1) := by decide +kernel
theorem dX5_of_13 : decode cX5_of 13 = .ok (.ireturn, 1) := by decide +kernel
theorem dX5_lay_0 : decode cX5_lay 0 = .ok (.aload_n 0, 1) := by decide +kernel
theorem dX5_lay_1 : decode cX5_lay 1 = .ok (.getfield 7, 3) := by decide +kernel
theorem dX5_lay_4 : decode cX5_lay 4 = .ok (.bipush 15, 2) := by decide +kernel
theorem dX5_lay_6 : decode cX5_lay 6 = .ok (.iconst 5, 1) := by decide +kernel
theorem dX5_lay_7 : decode cX5_lay 7 = .ok (.iload_n 1, 1) := by decide +kernel
theorem dX5_lay_8 : decode cX5_lay 8 = .ok (.imul, 1) := by decide +kernel
theorem dX5_lay_9 : decode cX5_lay 9 = .ok (.iadd, 1) := by decide +kernel
theorem dX5_lay_10 : decode cX5_lay 10 = .ok (.iload_n 2, 1) := by decide +kernel
theorem dX5_lay_11 : decode cX5_lay 11 = .ok (.iadd, 1) := by decide +kernel
theorem dX5_lay_12 : decode cX5_lay 12 = .ok (.iload_n 3, 1) := by decide +kernel
theorem dX5_lay_13 : decode cX5_lay 13 = .ok (.iastore, 1) := by decide +kernel
theorem dX5_lay_14 : decode cX5_lay 14 = .ok (.return_, 1) := by decide +kernel
theorem dX5_has_0 : decode cX5_has 0 = .ok (.aload_n 0, 1) := by decide +kernel
theorem dX5_has_1 : decode cX5_has 1 = .ok (.getfield 7, 3) := by decide +kernel
theorem dX5_has_4 : decode cX5_has 4 = .ok (.bipush 45, 2) := by decide +kernel
theorem dX5_has_6 : decode cX5_has 6 = .ok (.iconst 4, 1) := by decide +kernel
theorem dX5_has_7 : decode cX5_has 7 = .ok (.iload_n 1, 1) := by decide +kernel
theorem dX5_has_8 : decode cX5_has 8 = .ok (.imul, 1) := by decide +kernel
theorem dX5_has_9 : decode cX5_has 9 = .ok (.iadd, 1) := by decide +kernel
theorem dX5_has_10 : decode cX5_has 10 = .ok (.iload_n 2, 1) := by decide +kernel
theorem dX5_has_11 : decode cX5_has 11 = .ok (.iadd, 1) := by decide +kernel
theorem dX5_has_12 : decode cX5_has 12 = .ok (.iaload, 1) := by decide +kernel
theorem dX5_has_13 : decode cX5_has 13 = .ok (.ireturn, 1) := by decide +kernel
theorem dX5_adds_0 : decode cX5_adds 0 = .ok (.aload_n 0, 1) := by decide +kernel
theorem dX5_adds_1 : decode cX5_adds 1 = .ok (.getfield 7, 3) := by decide +kernel
theorem dX5_adds_4 : decode cX5_adds 4 = .ok (.bipush 45, 2) := by decide +kernel
theorem dX5_adds_6 : decode cX5_adds 6 = .ok (.iconst 4, 1) := by decide +kernel
theorem dX5_adds_7 : decode cX5_adds 7 = .ok (.iload_n 1, 1) := by decide +kernel
theorem dX5_adds_8 : decode cX5_adds 8 = .ok (.imul, 1) := by decide +kernel
theorem dX5_adds_9 : decode cX5_adds 9 = .ok (.iadd, 1) := by decide +kernel
theorem dX5_adds_10 : decode cX5_adds 10 = .ok (.iload_n 2, 1) := by decide +kernel
theorem dX5_adds_11 : decode cX5_adds 11 = .ok (.iadd, 1) := by decide +kernel
theorem dX5_adds_12 : decode cX5_adds 12 = .ok (.dup2, 1) := by decide +kernel
theorem dX5_adds_13 : decode cX5_adds 13 = .ok (.iaload, 1) := by decide +kernel
theorem dX5_adds_14 : decode cX5_adds 14 = .ok (.iload_n 3, 1) := by decide +kernel
theorem dX5_adds_15 : decode cX5_adds 15 = .ok (.iadd, 1) := by decide +kernel
theorem dX5_adds_16 : decode cX5_adds 16 = .ok (.iastore, 1) := by decide +kernel
theorem dX5_adds_17 : decode cX5_adds 17 = .ok (.return_, 1) := by decide +kernel
theorem dX5_bidAt_0 : decode cX5_bidAt 0 = .ok (.bipush 69, 2) := by decide +kernel
theorem dX5_bidAt_2 : decode cX5_bidAt 2 = .ok (.bipush 18, 2) := by decide +kernel
theorem dX5_bidAt_4 : decode cX5_bidAt 4 = .ok (.iload_n 1, 1) := by decide +kernel
theorem dX5_bidAt_5 : decode cX5_bidAt 5 = .ok (.imul, 1) := by decide +kernel
theorem dX5_bidAt_6 : decode cX5_bidAt 6 = .ok (.iadd, 1) := by decide +kernel
theorem dX5_bidAt_7 : decode cX5_bidAt 7 = .ok (.iconst 3, 1) := by decide +kernel
theorem dX5_bidAt_8 : decode cX5_bidAt 8 = .ok (.iload_n 2, 1) := by decide +kernel
theorem dX5_bidAt_9 : decode cX5_bidAt 9 = .ok (.imul, 1) := by decide +kernel
theorem dX5_bidAt_10 : decode cX5_bidAt 10 = .ok (.iadd, 1) := by decide +kernel
theorem dX5_bidAt_11 : decode cX5_bidAt 11 = .ok (.ireturn, 1) := by decide +kernel
set_option maxRecDepth 20000 in
theorem ggX5_isBid_X5_bidAt : GoodIn wsX5_isBid wsX5_bidAt := goodIn_r _ [6] (by decide +kernel) (by decide +kernel)
set_option maxRecDepth 20000 in
theorem gX5_isBid_X5_bidAt : GoodIn wsX5_isBid (wsV RX5 36 RX5 yX5_bidAt wsX5_bidAt) := goodIn_app (goodIn_of _ (by decide +kernel)) ggX5_isBid_X5_bidAt
theorem dX5_isBid_0 : decode cX5_isBid 0 = .ok (.aload_n 0, 1) := by decide +kernel
theorem dX5_isBid_1 : decode cX5_isBid 1 = .ok (.getfield 7, 3) := by decide +kernel
theorem dX5_isBid_4 : decode cX5_isBid 4 = .ok (.aload_n 0, 1) := by decide +kernel
theorem dX5_isBid_5 : decode cX5_isBid 5 = .ok (.iload_n 1, 1) := by decide +kernel
theorem dX5_isBid_6 : decode cX5_isBid 6 = .ok (.iload_n 2, 1) := by decide +kernel
theorem dX5_isBid_7 : decode cX5_isBid 7 = .ok (.invokevirtual 36, 3) := by decide +kernel
theorem dX5_isBid_10 : decode cX5_isBid 10 = .ok (.iaload, 1) := by decide +kernel
theorem dX5_isBid_11 : decode cX5_isBid 11 = .ok (.iconst (-1), 1) := by decide +kernel
theorem dX5_isBid_12 : decode cX5_isBid 12 = .ok (.if_icmp .eq 7, 3) := by decide +kernel
theorem dX5_isBid_15 : decode cX5_isBid 15 = .ok (.iconst 1, 1) := by decide +kernel
theorem dX5_isBid_16 : decode cX5_isBid 16 = .ok (.goto 4, 3) := by decide +kernel
theorem dX5_isBid_19 : decode cX5_isBid 19 = .ok (.iconst 0, 1) := by decide +kernel
theorem dX5_isBid_20 : decode cX5_isBid 20 = .ok (.ireturn, 1) := by decide +kernel
set_option maxRecDepth 20000 in
theorem ggX5_amountOf_X5_isBid : GoodIn wsX5_amountOf wsX5_isBid := goodIn_r _ [9, 4, 10, 11, 12, 8, 13, 14, 15, 16, 17, 18, 19, 20, 21, 22, 23, 24, 25, 26, 27, 28, 29, 30, 31] (by decide +kernel) (by decide +kernel)
set_option maxRecDepth 20000 in
theorem gX5_amountOf_X5_isBid : GoodIn wsX5_amountOf (wsV RX5 46 RX5 yX5_isBid wsX5_isBid) := goodIn_app (goodIn_of _ (by decide +kernel)) ggX5_amountOf_X5_isBid
set_option maxRecDepth 20000 in
theorem ggX5_amountOf_X5_bidAt : GoodIn wsX5_amountOf wsX5_bidAt := goodIn_r _ [13] (by decide +kernel) (by decide +kernel)
set_option maxRecDepth 20000 in
theorem gX5_amountOf_X5_bidAt : GoodIn wsX5_amountOf (wsV RX5 36 RX5 yX5_bidAt wsX5_bidAt) := goodIn_app (goodIn_of _ (by decide +kernel)) ggX5_amountOf_X5_bidAt
theorem dX5_amountOf_0 : decode cX5_amountOf 0 = .ok (.iload_n 1, 1) := by decide +kernel
theorem dX5_amountOf_1 : decode cX5_amountOf 1 = .ok (.aload_n 0, 1) := by decide +kernel
theorem dX5_amountOf_2 : decode cX5_amountOf 2 = .ok (.getfield 16, 3) := by decide +kernel
theorem dX5_amountOf_5 : decode cX5_amountOf 5 = .ok (.if_icmp .ne 16, 3) := by decide +kernel
theorem dX5_amountOf_8 : decode cX5_amountOf 8 = .ok (.iload_n 2, 1) := by decide +kernel
theorem dX5_amountOf_9 : decode cX5_amountOf 9 = .ok (.aload_n 0, 1) := by decide +kernel
theorem dX5_amountOf_10 : decode cX5_amountOf 10 = .ok (.getfield 40, 3) := by decide +kernel
theorem dX5_amountOf_13 : decode cX5_amountOf 13 = .ok (.if_icmp .ne 8, 3) := by decide +kernel
theorem dX5_amountOf_16 : decode cX5_amountOf 16 = .ok (.aload_n 0, 1) := by decide +kernel
theorem dX5_amountOf_17 : decode cX5_amountOf 17 = .ok (.getfield 43, 3) := by decide +kernel
theorem dX5_amountOf_20 : decode cX5_amountOf 20 = .ok (.ireturn, 1) := by decide +kernel
theorem dX5_amountOf_21 : decode cX5_amountOf 21 = .ok (.aload_n 0, 1) := by decide +kernel
theorem dX5_amountOf_22 : decode cX5_amountOf 22 = .ok (.iload_n 1, 1) := by decide +kernel
theorem dX5_amountOf_23 : decode cX5_amountOf 23 = .ok (.iload_n 2, 1) := by decide +kernel
theorem dX5_amountOf_24 : decode cX5_amountOf 24 = .ok (.invokevirtual 46, 3) := by decide +kernel
theorem dX5_amountOf_27 : decode cX5_amountOf 27 = .ok (.ifCond .eq 19, 3) := by decide +kernel
theorem dX5_amountOf_30 : decode cX5_amountOf 30 = .ok (.aload_n 0, 1) := by decide +kernel
theorem dX5_amountOf_31 : decode cX5_amountOf 31 = .ok (.getfield 7, 3) := by decide +kernel
theorem dX5_amountOf_34 : decode cX5_amountOf 34 = .ok (.aload_n 0, 1) := by decide +kernel
theorem dX5_amountOf_35 : decode cX5_amountOf 35 = .ok (.iload_n 1, 1) := by decide +kernel
theorem dX5_amountOf_36 : decode cX5_amountOf 36 = .ok (.iload_n 2, 1) := by decide +kernel
theorem dX5_amountOf_37 : decode cX5_amountOf 37 = .ok (.invokevirtual 36, 3) := by decide +kernel
theorem dX5_amountOf_40 : decode cX5_amountOf 40 = .ok (.iconst 2, 1) := by decide +kernel
theorem dX5_amountOf_41 : decode cX5_amountOf 41 = .ok (.iadd, 1) := by decide +kernel
theorem dX5_amountOf_42 : decode cX5_amountOf 42 = .ok (.iaload, 1) := by decide +kernel
theorem dX5_amountOf_43 : decode cX5_amountOf 43 = .ok (.goto 4, 3) := by decide +kernel
theorem dX5_amountOf_46 : decode cX5_amountOf 46 = .ok (.iconst 0, 1) := by decide +kernel
theorem dX5_amountOf_47 : decode cX5_amountOf 47 = .ok (.ireturn, 1) := by decide +kernel
set_option maxRecDepth 20000 in
theorem ggX5_brings_X5_amountOf : GoodIn wsX5_brings wsX5_amountOf := goodIn_r _ [5, 6, 7, 8, 9, 10, 11, 12, 4, 13, 14, 15, 16, 17, 26, 27, 28, 29, 30, 31, 32, 33, 34, 35, 36, 37, 38, 39, 40, 41, 42, 43] (by decide +kernel) (by decide +kernel)
set_option maxRecDepth 20000 in
theorem gX5_brings_X5_amountOf : GoodIn wsX5_brings (wsV RX5 50 RX5 yX5_amountOf wsX5_amountOf) := goodIn_app (goodIn_of _ (by decide +kernel)) ggX5_brings_X5_amountOf
set_option maxRecDepth 20000 in
theorem ggX5_brings_X5_of : GoodIn wsX5_brings wsX5_of := goodIn_r _ [21, 9, 26, 27, 28, 29, 30, 31, 32, 33, 34, 35, 36, 37, 38, 39, 40, 41, 42, 43] (by decide +kernel) (by decide +kernel)
set_option maxRecDepth 20000 in
theorem gX5_brings_X5_of : GoodIn wsX5_brings (wsV RX5 53 RX5 yX5_of wsX5_of) := goodIn_app (goodIn_of _ (by decide +kernel)) ggX5_brings_X5_of
set_option maxRecDepth 20000 in
theorem ggX5_brings_X5_has : GoodIn wsX5_brings wsX5_has := goodIn_r _ [25, 9, 26, 27, 28, 29, 30, 31, 32, 33, 34, 35, 36, 37, 38, 39, 40, 41, 42, 43] (by decide +kernel) (by decide +kernel)
set_option maxRecDepth 20000 in
theorem gX5_brings_X5_has : GoodIn wsX5_brings (wsV RX5 56 RX5 yX5_has wsX5_has) := goodIn_app (goodIn_of _ (by decide +kernel)) ggX5_brings_X5_has
theorem dX5_brings_0 : decode cX5_brings 0 = .ok (.aload_n 0, 1) := by decide +kernel
theorem dX5_brings_1 : decode cX5_brings 1 = .ok (.iload_n 1, 1) := by decide +kernel
theorem dX5_brings_2 : decode cX5_brings 2 = .ok (.iload_n 2, 1) := by decide +kernel
theorem dX5_brings_3 : decode cX5_brings 3 = .ok (.invokevirtual 50, 3) := by decide +kernel
theorem dX5_brings_6 : decode cX5_brings 6 = .ok (.istore_n 3, 1) := by decide +kernel
theorem dX5_brings_7 : decode cX5_brings 7 = .ok (.iload_n 3, 1) := by decide +kernel
theorem dX5_brings_8 : decode cX5_brings 8 = .ok (.ifCond .le 27, 3) := by decide +kernel
theorem dX5_brings_11 : decode cX5_brings 11 = .ok (.iload_n 3, 1) := by decide +kernel
theorem dX5_brings_12 : decode cX5_brings 12 = .ok (.aload_n 0, 1) := by decide +kernel
theorem dX5_brings_13 : decode cX5_brings 13 = .ok (.iload_n 2, 1) := by decide +kernel
theorem dX5_brings_14 : decode cX5_brings 14 = .ok (.iconst 0, 1) := by decide +kernel
theorem dX5_brings_15 : decode cX5_brings 15 = .ok (.invokevirtual 53, 3) := by decide +kernel
theorem dX5_brings_18 : decode cX5_brings 18 = .ok (.if_icmp .lt 17, 3) := by decide +kernel
theorem dX5_brings_21 : decode cX5_brings 21 = .ok (.aload_n 0, 1) := by decide +kernel
theorem dX5_brings_22 : decode cX5_brings 22 = .ok (.iload_n 1, 1) := by decide +kernel
theorem dX5_brings_23 : decode cX5_brings 23 = .ok (.iconst 0, 1) := by decide +kernel
theorem dX5_brings_24 : decode cX5_brings 24 = .ok (.invokevirtual 56, 3) := by decide +kernel
theorem dX5_brings_27 : decode cX5_brings 27 = .ok (.iload_n 3, 1) := by decide +kernel
theorem dX5_brings_28 : decode cX5_brings 28 = .ok (.if_icmp .lt 7, 3) := by decide +kernel
theorem dX5_brings_31 : decode cX5_brings 31 = .ok (.iconst 1, 1) := by decide +kernel
theorem dX5_brings_32 : decode cX5_brings 32 = .ok (.goto 4, 3) := by decide +kernel
theorem dX5_brings_35 : decode cX5_brings 35 = .ok (.iconst 0, 1) := by decide +kernel
theorem dX5_brings_36 : decode cX5_brings 36 = .ok (.istore 4, 2) := by decide +kernel
theorem dX5_brings_38 : decode cX5_brings 38 = .ok (.iload 4, 2) := by decide +kernel
theorem dX5_brings_40 : decode cX5_brings 40 = .ok (.ifCond .eq 19, 3) := by decide +kernel
theorem dX5_brings_43 : decode cX5_brings 43 = .ok (.bipush 8, 2) := by decide +kernel
theorem dX5_brings_45 : decode cX5_brings 45 = .ok (.iload_n 3, 1) := by decide +kernel
theorem dX5_brings_46 : decode cX5_brings 46 = .ok (.aload_n 0, 1) := by decide +kernel
theorem dX5_brings_47 : decode cX5_brings 47 = .ok (.iload_n 2, 1) := by decide +kernel
theorem dX5_brings_48 : decode cX5_brings 48 = .ok (.iconst 0, 1) := by decide +kernel
theorem dX5_brings_49 : decode cX5_brings 49 = .ok (.invokevirtual 53, 3) := by decide +kernel
theorem dX5_brings_52 : decode cX5_brings 52 = .ok (.isub, 1) := by decide +kernel
theorem dX5_brings_53 : decode cX5_brings 53 = .ok (.imul, 1) := by decide +kernel
theorem dX5_brings_54 : decode cX5_brings 54 = .ok (.iconst 1, 1) := by decide +kernel
theorem dX5_brings_55 : decode cX5_brings 55 = .ok (.iadd, 1) := by decide +kernel
theorem dX5_brings_56 : decode cX5_brings 56 = .ok (.goto 4, 3) := by decide +kernel
theorem dX5_brings_59 : decode cX5_brings 59 = .ok (.iconst (-1), 1) := by decide +kernel
theorem dX5_brings_60 : decode cX5_brings 60 = .ok (.ireturn, 1) := by decide +kernel
set_option maxRecDepth 20000 in
theorem ggX5_with_X5_brings : GoodIn wsX5_with wsX5_brings := goodIn_r _ [6, 7, 8, 9, 5, 10, 11, 12, 13, 14, 15, 16, 17, 18, 19, 20, 21, 22, 23, 24, 25, 26, 27, 28, 29, 30, 31, 32, 33, 34, 35, 36, 37, 38, 39, 40, 41, 42, 43, 44, 45, 46, 47, 48] (by decide +kernel) (by decide +kernel)
set_option maxRecDepth 20000 in
theorem gX5_with_X5_brings : GoodIn wsX5_with (wsV RX5 59 RX5 yX5_brings wsX5_brings) := goodIn_app (goodIn_of _ (by decide +kernel)) ggX5_with_X5_brings
theorem dX5_with_0 : decode cX5_with 0 = .ok (.iload_n 2, 1) := by decide +kernel
theorem dX5_with_1 : decode cX5_with 1 = .ok (.bipush 6, 2) := by decide +kernel
theorem dX5_with_3 : decode cX5_with 3 = .ok (.if_icmp .ne 17, 3) := by decide +kernel
theorem dX5_with_6 : decode cX5_with 6 = .ok (.aload_n 0, 1) := by decide +kernel
theorem dX5_with_7 : decode cX5_with 7 = .ok (.getfield 20, 3) := by decide +kernel
theorem dX5_with_10 : decode cX5_with 10 = .ok (.bipush 64, 2) := by decide +kernel
theorem dX5_with_12 : decode cX5_with 12 = .ok (.iload_n 1, 1) := by decide +kernel
theorem dX5_with_13 : decode cX5_with 13 = .ok (.iconst 1, 1) := by decide +kernel
theorem dX5_with_14 : decode cX5_with 14 = .ok (.iadd, 1) := by decide +kernel
theorem dX5_with_15 : decode cX5_with 15 = .ok (.imul, 1) := by decide +kernel
theorem dX5_with_16 : decode cX5_with 16 = .ok (.iload_n 3, 1) := by decide +kernel
theorem dX5_with_17 : decode cX5_with 17 = .ok (.iadd, 1) := by decide +kernel
theorem dX5_with_18 : decode cX5_with 18 = .ok (.iaload, 1) := by decide +kernel
theorem dX5_with_19 : decode cX5_with 19 = .ok (.ireturn, 1) := by decide +kernel
theorem dX5_with_20 : decode cX5_with 20 = .ok (.iload_n 3, 1) := by decide +kernel
theorem dX5_with_21 : decode cX5_with 21 = .ok (.iload_n 2, 1) := by decide +kernel
theorem dX5_with_22 : decode cX5_with 22 = .ok (.ishr, 1) := by decide +kernel
theorem dX5_with_23 : decode cX5_with 23 = .ok (.iconst 1, 1) := by decide +kernel
theorem dX5_with_24 : decode cX5_with 24 = .ok (.iand, 1) := by decide +kernel
theorem dX5_with_25 : decode cX5_with 25 = .ok (.iconst 1, 1) := by decide +kernel
theorem dX5_with_26 : decode cX5_with 26 = .ok (.if_icmp .ne 7, 3) := by decide +kernel
theorem dX5_with_29 : decode cX5_with 29 = .ok (.iconst (-1), 1) := by decide +kernel
theorem dX5_with_30 : decode cX5_with 30 = .ok (.goto 9, 3) := by decide +kernel
theorem dX5_with_33 : decode cX5_with 33 = .ok (.aload_n 0, 1) := by decide +kernel
theorem dX5_with_34 : decode cX5_with 34 = .ok (.iload_n 2, 1) := by decide +kernel
theorem dX5_with_35 : decode cX5_with 35 = .ok (.iload_n 1, 1) := by decide +kernel
theorem dX5_with_36 : decode cX5_with 36 = .ok (.invokevirtual 59, 3) := by decide +kernel
theorem dX5_with_39 : decode cX5_with 39 = .ok (.istore 4, 2) := by decide +kernel
theorem dX5_with_41 : decode cX5_with 41 = .ok (.iload 4, 2) := by decide +kernel
theorem dX5_with_43 : decode cX5_with 43 = .ok (.iconst (-1), 1) := by decide +kernel
theorem dX5_with_44 : decode cX5_with 44 = .ok (.if_icmp .ne 7, 3) := by decide +kernel
theorem dX5_with_47 : decode cX5_with 47 = .ok (.iconst (-1), 1) := by decide +kernel
theorem dX5_with_48 : decode cX5_with 48 = .ok (.goto 23, 3) := by decide +kernel
theorem dX5_with_51 : decode cX5_with 51 = .ok (.iload 4, 2) := by decide +kernel
theorem dX5_with_53 : decode cX5_with 53 = .ok (.aload_n 0, 1) := by decide +kernel
theorem dX5_with_54 : decode cX5_with 54 = .ok (.getfield 20, 3) := by decide +kernel
theorem dX5_with_57 : decode cX5_with 57 = .ok (.bipush 64, 2) := by decide +kernel
theorem dX5_with_59 : decode cX5_with 59 = .ok (.iload_n 1, 1) := by decide +kernel
theorem dX5_with_60 : decode cX5_with 60 = .ok (.iconst 1, 1) := by decide +kernel
theorem dX5_with_61 : decode cX5_with 61 = .ok (.iadd, 1) := by decide +kernel
theorem dX5_with_62 : decode cX5_with 62 = .ok (.imul, 1) := by decide +kernel
theorem dX5_with_63 : decode cX5_with 63 = .ok (.iload_n 3, 1) := by decide +kernel
theorem dX5_with_64 : decode cX5_with 64 = .ok (.iconst 1, 1) := by decide +kernel
theorem dX5_with_65 : decode cX5_with 65 = .ok (.iload_n 2, 1) := by decide +kernel
theorem dX5_with_66 : decode cX5_with 66 = .ok (.ishl, 1) := by decide +kernel
theorem dX5_with_67 : decode cX5_with 67 = .ok (.ior, 1) := by decide +kernel
theorem dX5_with_68 : decode cX5_with 68 = .ok (.iadd, 1) := by decide +kernel
theorem dX5_with_69 : decode cX5_with 69 = .ok (.iaload, 1) := by decide +kernel
theorem dX5_with_70 : decode cX5_with 70 = .ok (.iadd, 1) := by decide +kernel
theorem dX5_with_71 : decode cX5_with 71 = .ok (.ireturn, 1) := by decide +kernel
set_option maxRecDepth 20000 in
theorem ggX5_worthOf_X5_with : GoodIn wsX5_worthOf wsX5_with := goodIn_r _ [6, 1, 7, 8, 9, 5, 10, 11, 12, 13, 14, 15, 16, 17, 18, 19, 20, 21, 22, 23, 24, 25, 26, 27, 28, 29, 30, 31, 32, 33, 34, 35, 36, 37, 38, 39, 40, 41, 42, 43, 44, 45, 46, 47, 48, 49, 50, 51, 52] (by decide +kernel) (by decide +kernel)
set_option maxRecDepth 20000 in
theorem gX5_worthOf_X5_with : GoodIn wsX5_worthOf (wsV RX5 62 RX5 yX5_with wsX5_with) := goodIn_app (goodIn_of _ (by decide +kernel)) ggX5_worthOf_X5_with
theorem dX5_worthOf_0 : decode cX5_worthOf 0 = .ok (.iconst 0, 1) := by decide +kernel
theorem dX5_worthOf_1 : decode cX5_worthOf 1 = .ok (.istore_n 2, 1) := by decide +kernel
theorem dX5_worthOf_2 : decode cX5_worthOf 2 = .ok (.iload_n 2, 1) := by decide +kernel
theorem dX5_worthOf_3 : decode cX5_worthOf 3 = .ok (.bipush 64, 2) := by decide +kernel
theorem dX5_worthOf_5 : decode cX5_worthOf 5 = .ok (.if_icmp .ge 20, 3) := by decide +kernel
theorem dX5_worthOf_8 : decode cX5_worthOf 8 = .ok (.aload_n 0, 1) := by decide +kernel
theorem dX5_worthOf_9 : decode cX5_worthOf 9 = .ok (.getfield 20, 3) := by decide +kernel
theorem dX5_worthOf_12 : decode cX5_worthOf 12 = .ok (.sipush 384, 3) := by decide +kernel
theorem dX5_worthOf_15 : decode cX5_worthOf 15 = .ok (.iload_n 2, 1) := by decide +kernel
theorem dX5_worthOf_16 : decode cX5_worthOf 16 = .ok (.iadd, 1) := by decide +kernel
theorem dX5_worthOf_17 : decode cX5_worthOf 17 = .ok (.iconst 0, 1) := by decide +kernel
theorem dX5_worthOf_18 : decode cX5_worthOf 18 = .ok (.iastore, 1) := by decide +kernel
theorem dX5_worthOf_19 : decode cX5_worthOf 19 = .ok (.iinc 2 1, 3) := by decide +kernel
theorem dX5_worthOf_22 : decode cX5_worthOf 22 = .ok (.goto (-20), 3) := by decide +kernel
theorem dX5_worthOf_25 : decode cX5_worthOf 25 = .ok (.sipush 383, 3) := by decide +kernel
theorem dX5_worthOf_28 : decode cX5_worthOf 28 = .ok (.istore_n 2, 1) := by decide +kernel
theorem dX5_worthOf_29 : decode cX5_worthOf 29 = .ok (.iload_n 2, 1) := by decide +kernel
theorem dX5_worthOf_30 : decode cX5_worthOf 30 = .ok (.ifCond .lt 88, 3) := by decide +kernel
theorem dX5_worthOf_33 : decode cX5_worthOf 33 = .ok (.aload_n 0, 1) := by decide +kernel
theorem dX5_worthOf_34 : decode cX5_worthOf 34 = .ok (.getfield 20, 3) := by decide +kernel
theorem dX5_worthOf_37 : decode cX5_worthOf 37 = .ok (.iload_n 2, 1) := by decide +kernel
theorem dX5_worthOf_38 : decode cX5_worthOf 38 = .ok (.iconst 0, 1) := by decide +kernel
theorem dX5_worthOf_39 : decode cX5_worthOf 39 = .ok (.iastore, 1) := by decide +kernel
theorem dX5_worthOf_40 : decode cX5_worthOf 40 = .ok (.iconst 0, 1) := by decide +kernel
theorem dX5_worthOf_41 : decode cX5_worthOf 41 = .ok (.istore_n 3, 1) := by decide +kernel
theorem dX5_worthOf_42 : decode cX5_worthOf 42 = .ok (.iload_n 3, 1) := by decide +kernel
theorem dX5_worthOf_43 : decode cX5_worthOf 43 = .ok (.bipush 6, 2) := by decide +kernel
theorem dX5_worthOf_45 : decode cX5_worthOf 45 = .ok (.if_icmp .gt 67, 3) := by decide +kernel
theorem dX5_worthOf_48 : decode cX5_worthOf 48 = .ok (.iload_n 3, 1) := by decide +kernel
theorem dX5_worthOf_49 : decode cX5_worthOf 49 = .ok (.iload_n 1, 1) := by decide +kernel
theorem dX5_worthOf_50 : decode cX5_worthOf 50 = .ok (.if_icmp .ne 13, 3) := by decide +kernel
theorem dX5_worthOf_53 : decode cX5_worthOf 53 = .ok (.iload_n 3, 1) := by decide +kernel
theorem dX5_worthOf_54 : decode cX5_worthOf 54 = .ok (.bipush 6, 2) := by decide +kernel
theorem dX5_worthOf_56 : decode cX5_worthOf 56 = .ok (.if_icmp .ge 7, 3) := by decide +kernel
theorem dX5_worthOf_59 : decode cX5_worthOf 59 = .ok (.iconst (-1), 1) := by decide +kernel
theorem dX5_worthOf_60 : decode cX5_worthOf 60 = .ok (.goto 16, 3) := by decide +kernel
theorem dX5_worthOf_63 : decode cX5_worthOf 63 = .ok (.aload_n 0, 1) := by decide +kernel
theorem dX5_worthOf_64 : decode cX5_worthOf 64 = .ok (.iload_n 2, 1) := by decide +kernel
theorem dX5_worthOf_65 : decode cX5_worthOf 65 = .ok (.bipush 64, 2) := by decide +kernel
theorem dX5_worthOf_67 : decode cX5_worthOf 67 = .ok (.idiv, 1) := by decide +kernel
theorem dX5_worthOf_68 : decode cX5_worthOf 68 = .ok (.iload_n 3, 1) := by decide +kernel
theorem dX5_worthOf_69 : decode cX5_worthOf 69 = .ok (.iload_n 2, 1) := by decide +kernel
theorem dX5_worthOf_70 : decode cX5_worthOf 70 = .ok (.bipush 64, 2) := by decide +kernel
theorem dX5_worthOf_72 : decode cX5_worthOf 72 = .ok (.irem, 1) := by decide +kernel
theorem dX5_worthOf_73 : decode cX5_worthOf 73 = .ok (.invokevirtual 62, 3) := by decide +kernel
theorem dX5_worthOf_76 : decode cX5_worthOf 76 = .ok (.istore 4, 2) := by decide +kernel
theorem dX5_worthOf_78 : decode cX5_worthOf 78 = .ok (.aload_n 0, 1) := by decide +kernel
theorem dX5_worthOf_79 : decode cX5_worthOf 79 = .ok (.getfield 20, 3) := by decide +kernel
theorem dX5_worthOf_82 : decode cX5_worthOf 82 = .ok (.iload_n 2, 1) := by decide +kernel
theorem dX5_worthOf_83 : decode cX5_worthOf 83 = .ok (.iload 4, 2) := by decide +kernel
theorem dX5_worthOf_85 : decode cX5_worthOf 85 = .ok (.aload_n 0, 1) := by decide +kernel
theorem dX5_worthOf_86 : decode cX5_worthOf 86 = .ok (.getfield 20, 3) := by decide +kernel
theorem dX5_worthOf_89 : decode cX5_worthOf 89 = .ok (.iload_n 2, 1) := by decide +kernel
theorem dX5_worthOf_90 : decode cX5_worthOf 90 = .ok (.iaload, 1) := by decide +kernel
theorem dX5_worthOf_91 : decode cX5_worthOf 91 = .ok (.if_icmp .le 8, 3) := by decide +kernel
theorem dX5_worthOf_94 : decode cX5_worthOf 94 = .ok (.iload 4, 2) := by decide +kernel
theorem dX5_worthOf_96 : decode cX5_worthOf 96 = .ok (.goto 9, 3) := by decide +kernel
theorem dX5_worthOf_99 : decode cX5_worthOf 99 = .ok (.aload_n 0, 1) := by decide +kernel
theorem dX5_worthOf_100 : decode cX5_worthOf 100 = .ok (.getfield 20, 3) := by decide +kernel
theorem dX5_worthOf_103 : decode cX5_worthOf 103 = .ok (.iload_n 2, 1) := by decide +kernel
theorem dX5_worthOf_104 : decode cX5_worthOf 104 = .ok (.iaload, 1) := by decide +kernel
theorem dX5_worthOf_105 : decode cX5_worthOf 105 = .ok (.iastore, 1) := by decide +kernel
theorem dX5_worthOf_106 : decode cX5_worthOf 106 = .ok (.iinc 3 1, 3) := by decide +kernel
theorem dX5_worthOf_109 : decode cX5_worthOf 109 = .ok (.goto (-67), 3) := by decide +kernel
theorem dX5_worthOf_112 : decode cX5_worthOf 112 = .ok (.iinc 2 (-1), 3) := by decide +kernel
theorem dX5_worthOf_115 : decode cX5_worthOf 115 = .ok (.goto (-86), 3) := by decide +kernel
theorem dX5_worthOf_118 : decode cX5_worthOf 118 = .ok (.aload_n 0, 1) := by decide +kernel
theorem dX5_worthOf_119 : decode cX5_worthOf 119 = .ok (.getfield 20, 3) := by decide +kernel
theorem dX5_worthOf_122 : decode cX5_worthOf 122 = .ok (.iconst 0, 1) := by decide +kernel
theorem dX5_worthOf_123 : decode cX5_worthOf 123 = .ok (.iaload, 1) := by decide +kernel
theorem dX5_worthOf_124 : decode cX5_worthOf 124 = .ok (.bipush 8, 2) := by decide +kernel
theorem dX5_worthOf_126 : decode cX5_worthOf 126 = .ok (.idiv, 1) := by decide +kernel
theorem dX5_worthOf_127 : decode cX5_worthOf 127 = .ok (.ireturn, 1) := by decide +kernel
set_option maxRecDepth 20000 in
theorem ggX5_shares_X5_worthOf : GoodIn wsX5_shares wsX5_worthOf := goodIn_r _ [8, 1, 9, 10, 11, 7, 12, 13, 14, 15, 16, 17, 18, 19, 20, 21, 22, 23, 24, 25, 26, 27, 28, 29, 30, 31, 32, 33, 34, 35, 36, 37, 38, 39, 40, 41, 42, 43, 44, 45, 46, 47, 48, 49, 50, 51, 52, 53, 54, 55, 56, 57, 58] (by decide +kernel) (by decide +kernel)
set_option maxRecDepth 20000 in
theorem gX5_shares_X5_worthOf : GoodIn wsX5_shares (wsV RX5 66 RX5 yX5_worthOf wsX5_worthOf) := goodIn_app (goodIn_of _ (by decide +kernel)) ggX5_shares_X5_worthOf
set_option maxRecDepth 20000 in
theorem ggX5_shares_X5_with : GoodIn wsX5_shares wsX5_with := goodIn_r _ [12, 1, 13, 14, 15, 7, 16, 17, 18, 19, 20, 21, 22, 23, 24, 25, 26, 27, 28, 29, 30, 31, 32, 33, 34, 35, 36, 37, 38, 39, 40, 41, 42, 43, 44, 45, 46, 47, 48, 49, 50, 51, 52, 53, 54, 55, 56, 57, 58] (by decide +kernel) (by decide +kernel)
set_option maxRecDepth 20000 in
theorem gX5_shares_X5_with : GoodIn wsX5_shares (wsV RX5 62 RX5 yX5_with wsX5_with) := goodIn_app (goodIn_of _ (by decide +kernel)) ggX5_shares_X5_with
set_option maxRecDepth 20000 in
theorem ggX5_shares_X5_of : GoodIn wsX5_shares wsX5_of := goodIn_r _ [36, 24, 41, 42, 43, 44, 45, 46, 47, 48, 49, 50, 51, 52, 53, 54, 55, 56, 57, 58] (by decide +kernel) (by decide +kernel)
set_option maxRecDepth 20000 in
theorem gX5_shares_X5_of : GoodIn wsX5_shares (wsV RX5 53 RX5 yX5_of wsX5_of) := goodIn_app (goodIn_of _ (by decide +kernel)) ggX5_shares_X5_of
set_option maxRecDepth 20000 in
theorem ggX5_shares_X5_brings : GoodIn wsX5_shares wsX5_brings := goodIn_r _ [16, 17, 18, 19, 7, 20, 21, 22, 23, 24, 25, 26, 27, 28, 29, 30, 31, 32, 33, 34, 35, 36, 37, 38, 39, 40, 41, 42, 43, 44, 45, 46, 47, 48, 49, 50, 51, 52, 53, 54, 55, 56, 57, 58] (by decide +kernel) (by decide +kernel)
set_option maxRecDepth 20000 in
theorem gX5_shares_X5_brings : GoodIn wsX5_shares (wsV RX5 59 RX5 yX5_brings wsX5_brings) := goodIn_app (goodIn_of _ (by decide +kernel)) ggX5_shares_X5_brings
theorem dX5_shares_0 : decode cX5_shares 0 = .ok (.aload_n 0, 1) := by decide +kernel
theorem dX5_shares_1 : decode cX5_shares 1 = .ok (.bipush 6, 2) := by decide +kernel
theorem dX5_shares_3 : decode cX5_shares 3 = .ok (.invokevirtual 66, 3) := by decide +kernel
theorem dX5_shares_6 : decode cX5_shares 6 = .ok (.istore_n 1, 1) := by decide +kernel
theorem dX5_shares_7 : decode cX5_shares 7 = .ok (.iconst 0, 1) := by decide +kernel
theorem dX5_shares_8 : decode cX5_shares 8 = .ok (.istore_n 2, 1) := by decide +kernel
theorem dX5_shares_9 : decode cX5_shares 9 = .ok (.iconst 0, 1) := by decide +kernel
theorem dX5_shares_10 : decode cX5_shares 10 = .ok (.istore_n 3, 1) := by decide +kernel
theorem dX5_shares_11 : decode cX5_shares 11 = .ok (.iload_n 3, 1) := by decide +kernel
theorem dX5_shares_12 : decode cX5_shares 12 = .ok (.bipush 6, 2) := by decide +kernel
theorem dX5_shares_14 : decode cX5_shares 14 = .ok (.if_icmp .ge 77, 3) := by decide +kernel
theorem dX5_shares_17 : decode cX5_shares 17 = .ok (.iconst 0, 1) := by decide +kernel
theorem dX5_shares_18 : decode cX5_shares 18 = .ok (.istore 4, 2) := by decide +kernel
theorem dX5_shares_20 : decode cX5_shares 20 = .ok (.aload_n 0, 1) := by decide +kernel
theorem dX5_shares_21 : decode cX5_shares 21 = .ok (.iload_n 3, 1) := by decide +kernel
theorem dX5_shares_22 : decode cX5_shares 22 = .ok (.iload 4, 2) := by decide +kernel
theorem dX5_shares_24 : decode cX5_shares 24 = .ok (.iload_n 2, 1) := by decide +kernel
theorem dX5_shares_25 : decode cX5_shares 25 = .ok (.invokevirtual 62, 3) := by decide +kernel
theorem dX5_shares_28 : decode cX5_shares 28 = .ok (.aload_n 0, 1) := by decide +kernel
theorem dX5_shares_29 : decode cX5_shares 29 = .ok (.getfield 20, 3) := by decide +kernel
theorem dX5_shares_32 : decode cX5_shares 32 = .ok (.bipush 64, 2) := by decide +kernel
theorem dX5_shares_34 : decode cX5_shares 34 = .ok (.iload_n 3, 1) := by decide +kernel
theorem dX5_shares_35 : decode cX5_shares 35 = .ok (.imul, 1) := by decide +kernel
theorem dX5_shares_36 : decode cX5_shares 36 = .ok (.iload_n 2, 1) := by decide +kernel
theorem dX5_shares_37 : decode cX5_shares 37 = .ok (.iadd, 1) := by decide +kernel
theorem dX5_shares_38 : decode cX5_shares 38 = .ok (.iaload, 1) := by decide +kernel
theorem dX5_shares_39 : decode cX5_shares 39 = .ok (.if_icmp .eq 9, 3) := by decide +kernel
theorem dX5_shares_42 : decode cX5_shares 42 = .ok (.iinc 4 1, 3) := by decide +kernel
theorem dX5_shares_45 : decode cX5_shares 45 = .ok (.goto (-25), 3) := by decide +kernel
theorem dX5_shares_48 : decode cX5_shares 48 = .ok (.aload_n 0, 1) := by decide +kernel
theorem dX5_shares_49 : decode cX5_shares 49 = .ok (.getfield 23, 3) := by decide +kernel
theorem dX5_shares_52 : decode cX5_shares 52 = .ok (.iload_n 3, 1) := by decide +kernel
theorem dX5_shares_53 : decode cX5_shares 53 = .ok (.iload 4, 2) := by decide +kernel
theorem dX5_shares_55 : decode cX5_shares 55 = .ok (.bipush 6, 2) := by decide +kernel
theorem dX5_shares_57 : decode cX5_shares 57 = .ok (.if_icmp .ne 7, 3) := by decide +kernel
theorem dX5_shares_60 : decode cX5_shares 60 = .ok (.iconst (-1), 1) := by decide +kernel
theorem dX5_shares_61 : decode cX5_shares 61 = .ok (.goto 5, 3) := by decide +kernel
theorem dX5_shares_64 : decode cX5_shares 64 = .ok (.iload 4, 2) := by decide +kernel
theorem dX5_shares_66 : decode cX5_shares 66 = .ok (.iastore, 1) := by decide +kernel
theorem dX5_shares_67 : decode cX5_shares 67 = .ok (.iload_n 2, 1) := by decide +kernel
theorem dX5_shares_68 : decode cX5_shares 68 = .ok (.iload 4, 2) := by decide +kernel
theorem dX5_shares_70 : decode cX5_shares 70 = .ok (.bipush 6, 2) := by decide +kernel
theorem dX5_shares_72 : decode cX5_shares 72 = .ok (.if_icmp .ne 7, 3) := by decide +kernel
theorem dX5_shares_75 : decode cX5_shares 75 = .ok (.iconst 0, 1) := by decide +kernel
theorem dX5_shares_76 : decode cX5_shares 76 = .ok (.goto 7, 3) := by decide +kernel
theorem dX5_shares_79 : decode cX5_shares 79 = .ok (.iconst 1, 1) := by decide +kernel
theorem dX5_shares_80 : decode cX5_shares 80 = .ok (.iload 4, 2) := by decide +kernel
theorem dX5_shares_82 : decode cX5_shares 82 = .ok (.ishl, 1) := by decide +kernel
theorem dX5_shares_83 : decode cX5_shares 83 = .ok (.ior, 1) := by decide +kernel
theorem dX5_shares_84 : decode cX5_shares 84 = .ok (.istore_n 2, 1) := by decide +kernel
theorem dX5_shares_85 : decode cX5_shares 85 = .ok (.iinc 3 1, 3) := by decide +kernel
theorem dX5_shares_88 : decode cX5_shares 88 = .ok (.goto (-77), 3) := by decide +kernel
theorem dX5_shares_91 : decode cX5_shares 91 = .ok (.iconst 0, 1) := by decide +kernel
theorem dX5_shares_92 : decode cX5_shares 92 = .ok (.istore_n 3, 1) := by decide +kernel
theorem dX5_shares_93 : decode cX5_shares 93 = .ok (.iload_n 3, 1) := by decide +kernel
theorem dX5_shares_94 : decode cX5_shares 94 = .ok (.bipush 6, 2) := by decide +kernel
theorem dX5_shares_96 : decode cX5_shares 96 = .ok (.if_icmp .ge 59, 3) := by decide +kernel
theorem dX5_shares_99 : decode cX5_shares 99 = .ok (.aload_n 0, 1) := by decide +kernel
theorem dX5_shares_100 : decode cX5_shares 100 = .ok (.getfield 23, 3) := by decide +kernel
theorem dX5_shares_103 : decode cX5_shares 103 = .ok (.iload_n 3, 1) := by decide +kernel
theorem dX5_shares_104 : decode cX5_shares 104 = .ok (.iaload, 1) := by decide +kernel
theorem dX5_shares_105 : decode cX5_shares 105 = .ok (.istore 4, 2) := by decide +kernel
theorem dX5_shares_107 : decode cX5_shares 107 = .ok (.aload_n 0, 1) := by decide +kernel
theorem dX5_shares_108 : decode cX5_shares 108 = .ok (.getfield 26, 3) := by decide +kernel
theorem dX5_shares_111 : decode cX5_shares 111 = .ok (.iload_n 3, 1) := by decide +kernel
theorem dX5_shares_112 : decode cX5_shares 112 = .ok (.iload 4, 2) := by decide +kernel
theorem dX5_shares_114 : decode cX5_shares 114 = .ok (.iconst (-1), 1) := by decide +kernel
theorem dX5_shares_115 : decode cX5_shares 115 = .ok (.if_icmp .ne 7, 3) := by decide +kernel
theorem dX5_shares_118 : decode cX5_shares 118 = .ok (.iconst (-1), 1) := by decide +kernel
theorem dX5_shares_119 : decode cX5_shares 119 = .ok (.goto 29, 3) := by decide +kernel
theorem dX5_shares_122 : decode cX5_shares 122 = .ok (.aload_n 0, 1) := by decide +kernel
theorem dX5_shares_123 : decode cX5_shares 123 = .ok (.iload_n 3, 1) := by decide +kernel
theorem dX5_shares_124 : decode cX5_shares 124 = .ok (.iconst 0, 1) := by decide +kernel
theorem dX5_shares_125 : decode cX5_shares 125 = .ok (.invokevirtual 53, 3) := by decide +kernel
theorem dX5_shares_128 : decode cX5_shares 128 = .ok (.aload_n 0, 1) := by decide +kernel
theorem dX5_shares_129 : decode cX5_shares 129 = .ok (.iload 4, 2) := by decide +kernel
theorem dX5_shares_131 : decode cX5_shares 131 = .ok (.invokevirtual 66, 3) := by decide +kernel
theorem dX5_shares_134 : decode cX5_shares 134 = .ok (.iadd, 1) := by decide +kernel
theorem dX5_shares_135 : decode cX5_shares 135 = .ok (.iload_n 1, 1) := by decide +kernel
theorem dX5_shares_136 : decode cX5_shares 136 = .ok (.isub, 1) := by decide +kernel
theorem dX5_shares_137 : decode cX5_shares 137 = .ok (.aload_n 0, 1) := by decide +kernel
theorem dX5_shares_138 : decode cX5_shares 138 = .ok (.iload 4, 2) := by decide +kernel
theorem dX5_shares_140 : decode cX5_shares 140 = .ok (.iload_n 3, 1) := by decide +kernel
theorem dX5_shares_141 : decode cX5_shares 141 = .ok (.invokevirtual 59, 3) := by decide +kernel
theorem dX5_shares_144 : decode cX5_shares 144 = .ok (.bipush 8, 2) := by decide +kernel
theorem dX5_shares_146 : decode cX5_shares 146 = .ok (.idiv, 1) := by decide +kernel
theorem dX5_shares_147 : decode cX5_shares 147 = .ok (.iadd, 1) := by decide +kernel
theorem dX5_shares_148 : decode cX5_shares 148 = .ok (.iastore, 1) := by decide +kernel
theorem dX5_shares_149 : decode cX5_shares 149 = .ok (.iinc 3 1, 3) := by decide +kernel
theorem dX5_shares_152 : decode cX5_shares 152 = .ok (.goto (-59), 3) := by decide +kernel
theorem dX5_shares_155 : decode cX5_shares 155 = .ok (.return_, 1) := by decide +kernel
theorem dX5_gets_0 : decode cX5_gets 0 = .ok (.iconst 0, 1) := by decide +kernel
theorem dX5_gets_1 : decode cX5_gets 1 = .ok (.istore_n 2, 1) := by decide +kernel
theorem dX5_gets_2 : decode cX5_gets 2 = .ok (.iload_n 2, 1) := by decide +kernel
theorem dX5_gets_3 : decode cX5_gets 3 = .ok (.bipush 6, 2) := by decide +kernel
theorem dX5_gets_5 : decode cX5_gets 5 = .ok (.if_icmp .ge 21, 3) := by decide +kernel
theorem dX5_gets_8 : decode cX5_gets 8 = .ok (.aload_n 0, 1) := by decide +kernel
theorem dX5_gets_9 : decode cX5_gets 9 = .ok (.getfield 23, 3) := by decide +kernel
theorem dX5_gets_12 : decode cX5_gets 12 = .ok (.iload_n 2, 1) := by decide +kernel
theorem dX5_gets_13 : decode cX5_gets 13 = .ok (.iaload, 1) := by decide +kernel
theorem dX5_gets_14 : decode cX5_gets 14 = .ok (.iload_n 1, 1) := by decide +kernel
theorem dX5_gets_15 : decode cX5_gets 15 = .ok (.if_icmp .ne 5, 3) := by decide +kernel
theorem dX5_gets_18 : decode cX5_gets 18 = .ok (.iload_n 2, 1) := by decide +kernel
theorem dX5_gets_19 : decode cX5_gets 19 = .ok (.ireturn, 1) := by decide +kernel
theorem dX5_gets_20 : decode cX5_gets 20 = .ok (.iinc 2 1, 3) := by decide +kernel
theorem dX5_gets_23 : decode cX5_gets 23 = .ok (.goto (-21), 3) := by decide +kernel
theorem dX5_gets_26 : decode cX5_gets 26 = .ok (.iconst (-1), 1) := by decide +kernel
theorem dX5_gets_27 : decode cX5_gets 27 = .ok (.ireturn, 1) := by decide +kernel
set_option maxRecDepth 20000 in
theorem ggX5_reason_X5_isBid : GoodIn wsX5_reason wsX5_isBid := goodIn_r _ [6, 1, 7, 8, 9, 5, 10, 19, 20, 21, 22, 23, 24, 25, 26, 27, 28, 29, 30, 31, 32, 33, 34, 35, 36] (by decide +kernel) (by decide +kernel)
set_option maxRecDepth 20000 in
theorem gX5_reason_X5_isBid : GoodIn wsX5_reason (wsV RX5 46 RX5 yX5_isBid wsX5_isBid) := goodIn_app (goodIn_of _ (by decide +kernel)) ggX5_reason_X5_isBid
set_option maxRecDepth 20000 in
theorem ggX5_reason_X5_of : GoodIn wsX5_reason wsX5_of := goodIn_r _ [14, 1, 19, 20, 21, 22, 23, 24, 25, 26, 27, 28, 29, 30, 31, 32, 33, 34, 35, 36] (by decide +kernel) (by decide +kernel)
set_option maxRecDepth 20000 in
theorem gX5_reason_X5_of : GoodIn wsX5_reason (wsV RX5 53 RX5 yX5_of wsX5_of) := goodIn_app (goodIn_of _ (by decide +kernel)) ggX5_reason_X5_of
set_option maxRecDepth 20000 in
theorem ggX5_reason_X5_has : GoodIn wsX5_reason wsX5_has := goodIn_r _ [18, 1, 19, 20, 21, 22, 23, 24, 25, 26, 27, 28, 29, 30, 31, 32, 33, 34, 35, 36] (by decide +kernel) (by decide +kernel)
set_option maxRecDepth 20000 in
theorem gX5_reason_X5_has : GoodIn wsX5_reason (wsV RX5 56 RX5 yX5_has wsX5_has) := goodIn_app (goodIn_of _ (by decide +kernel)) ggX5_reason_X5_has
theorem dX5_reason_0 : decode cX5_reason 0 = .ok (.aload_n 0, 1) := by decide +kernel
theorem dX5_reason_1 : decode cX5_reason 1 = .ok (.getfield 7, 3) := by decide +kernel
theorem dX5_reason_4 : decode cX5_reason 4 = .ok (.iconst 2, 1) := by decide +kernel
theorem dX5_reason_5 : decode cX5_reason 5 = .ok (.iaload, 1) := by decide +kernel
theorem dX5_reason_6 : decode cX5_reason 6 = .ok (.iconst 1, 1) := by decide +kernel
theorem dX5_reason_7 : decode cX5_reason 7 = .ok (.if_icmp .ne 5, 3) := by decide +kernel
theorem dX5_reason_10 : decode cX5_reason 10 = .ok (.iconst 1, 1) := by decide +kernel
theorem dX5_reason_11 : decode cX5_reason 11 = .ok (.ireturn, 1) := by decide +kernel
theorem dX5_reason_12 : decode cX5_reason 12 = .ok (.aload_n 0, 1) := by decide +kernel
theorem dX5_reason_13 : decode cX5_reason 13 = .ok (.iload_n 1, 1) := by decide +kernel
theorem dX5_reason_14 : decode cX5_reason 14 = .ok (.iload_n 2, 1) := by decide +kernel
theorem dX5_reason_15 : decode cX5_reason 15 = .ok (.invokevirtual 46, 3) := by decide +kernel
theorem dX5_reason_18 : decode cX5_reason 18 = .ok (.ifCond .eq 5, 3) := by decide +kernel
theorem dX5_reason_21 : decode cX5_reason 21 = .ok (.iconst 2, 1) := by decide +kernel
theorem dX5_reason_22 : decode cX5_reason 22 = .ok (.ireturn, 1) := by decide +kernel
theorem dX5_reason_23 : decode cX5_reason 23 = .ok (.iload_n 3, 1) := by decide +kernel
theorem dX5_reason_24 : decode cX5_reason 24 = .ok (.aload_n 0, 1) := by decide +kernel
theorem dX5_reason_25 : decode cX5_reason 25 = .ok (.iload_n 2, 1) := by decide +kernel
theorem dX5_reason_26 : decode cX5_reason 26 = .ok (.iconst 0, 1) := by decide +kernel
theorem dX5_reason_27 : decode cX5_reason 27 = .ok (.invokevirtual 53, 3) := by decide +kernel
theorem dX5_reason_30 : decode cX5_reason 30 = .ok (.if_icmp .ge 7, 3) := by decide +kernel
theorem dX5_reason_33 : decode cX5_reason 33 = .ok (.iconst 3, 1) := by decide +kernel
theorem dX5_reason_34 : decode cX5_reason 34 = .ok (.goto 18, 3) := by decide +kernel
theorem dX5_reason_37 : decode cX5_reason 37 = .ok (.aload_n 0, 1) := by decide +kernel
theorem dX5_reason_38 : decode cX5_reason 38 = .ok (.iload_n 1, 1) := by decide +kernel
theorem dX5_reason_39 : decode cX5_reason 39 = .ok (.iconst 0, 1) := by decide +kernel
theorem dX5_reason_40 : decode cX5_reason 40 = .ok (.invokevirtual 56, 3) := by decide +kernel
theorem dX5_reason_43 : decode cX5_reason 43 = .ok (.iload_n 3, 1) := by decide +kernel
theorem dX5_reason_44 : decode cX5_reason 44 = .ok (.if_icmp .ge 7, 3) := by decide +kernel
theorem dX5_reason_47 : decode cX5_reason 47 = .ok (.iconst 4, 1) := by decide +kernel
theorem dX5_reason_48 : decode cX5_reason 48 = .ok (.goto 4, 3) := by decide +kernel
theorem dX5_reason_51 : decode cX5_reason 51 = .ok (.iconst 0, 1) := by decide +kernel
theorem dX5_reason_52 : decode cX5_reason 52 = .ok (.ireturn, 1) := by decide +kernel
set_option maxRecDepth 20000 in
theorem ggX5_fee_X5_bidAt : GoodIn wsX5_fee wsX5_bidAt := goodIn_r _ [6] (by decide +kernel) (by decide +kernel)
set_option maxRecDepth 20000 in
theorem gX5_fee_X5_bidAt : GoodIn wsX5_fee (wsV RX5 36 RX5 yX5_bidAt wsX5_bidAt) := goodIn_app (goodIn_of _ (by decide +kernel)) ggX5_fee_X5_bidAt
theorem dX5_fee_0 : decode cX5_fee 0 = .ok (.aload_n 0, 1) := by decide +kernel
theorem dX5_fee_1 : decode cX5_fee 1 = .ok (.getfield 7, 3) := by decide +kernel
theorem dX5_fee_4 : decode cX5_fee 4 = .ok (.bipush 12, 2) := by decide +kernel
theorem dX5_fee_6 : decode cX5_fee 6 = .ok (.iaload, 1) := by decide +kernel
theorem dX5_fee_7 : decode cX5_fee 7 = .ok (.aload_n 0, 1) := by decide +kernel
theorem dX5_fee_8 : decode cX5_fee 8 = .ok (.getfield 7, 3) := by decide +kernel
theorem dX5_fee_11 : decode cX5_fee 11 = .ok (.bipush 13, 2) := by decide +kernel
theorem dX5_fee_13 : decode cX5_fee 13 = .ok (.iaload, 1) := by decide +kernel
theorem dX5_fee_14 : decode cX5_fee 14 = .ok (.aload_n 0, 1) := by decide +kernel
theorem dX5_fee_15 : decode cX5_fee 15 = .ok (.getfield 7, 3) := by decide +kernel
theorem dX5_fee_18 : decode cX5_fee 18 = .ok (.iconst 1, 1) := by decide +kernel
theorem dX5_fee_19 : decode cX5_fee 19 = .ok (.iaload, 1) := by decide +kernel
theorem dX5_fee_20 : decode cX5_fee 20 = .ok (.aload_n 0, 1) := by decide +kernel
theorem dX5_fee_21 : decode cX5_fee 21 = .ok (.getfield 7, 3) := by decide +kernel
theorem dX5_fee_24 : decode cX5_fee 24 = .ok (.aload_n 0, 1) := by decide +kernel
theorem dX5_fee_25 : decode cX5_fee 25 = .ok (.iload_n 1, 1) := by decide +kernel
theorem dX5_fee_26 : decode cX5_fee 26 = .ok (.iload_n 2, 1) := by decide +kernel
theorem dX5_fee_27 : decode cX5_fee 27 = .ok (.invokevirtual 36, 3) := by decide +kernel
theorem dX5_fee_30 : decode cX5_fee 30 = .ok (.iconst 1, 1) := by decide +kernel
theorem dX5_fee_31 : decode cX5_fee 31 = .ok (.iadd, 1) := by decide +kernel
theorem dX5_fee_32 : decode cX5_fee 32 = .ok (.iaload, 1) := by decide +kernel
theorem dX5_fee_33 : decode cX5_fee 33 = .ok (.isub, 1) := by decide +kernel
theorem dX5_fee_34 : decode cX5_fee 34 = .ok (.imul, 1) := by decide +kernel
theorem dX5_fee_35 : decode cX5_fee 35 = .ok (.iadd, 1) := by decide +kernel
theorem dX5_fee_36 : decode cX5_fee 36 = .ok (.ireturn, 1) := by decide +kernel
set_option maxRecDepth 20000 in
theorem ggX5_whyKept_X5_isBid : GoodIn wsX5_whyKept wsX5_isBid := goodIn_r _ [6, 1, 7, 8, 9, 5, 10, 19, 20, 21, 22, 23, 24, 25, 26, 27, 28, 29, 30, 31, 32, 33, 34, 35, 36] (by decide +kernel) (by decide +kernel)
set_option maxRecDepth 20000 in
theorem gX5_whyKept_X5_isBid : GoodIn wsX5_whyKept (wsV RX5 46 RX5 yX5_isBid wsX5_isBid) := goodIn_app (goodIn_of _ (by decide +kernel)) ggX5_whyKept_X5_isBid
set_option maxRecDepth 20000 in
theorem ggX5_whyKept_X5_has : GoodIn wsX5_whyKept wsX5_has := goodIn_r _ [14, 1, 19, 20, 21, 22, 23, 24, 25, 26, 27, 28, 29, 30, 31, 32, 33, 34, 35, 36] (by decide +kernel) (by decide +kernel)
set_option maxRecDepth 20000 in
theorem gX5_whyKept_X5_has : GoodIn wsX5_whyKept (wsV RX5 56 RX5 yX5_has wsX5_has) := goodIn_app (goodIn_of _ (by decide +kernel)) ggX5_whyKept_X5_has
set_option maxRecDepth 20000 in
theorem ggX5_whyKept_X5_fee : GoodIn wsX5_whyKept wsX5_fee := goodIn_r _ [18, 1, 7, 8, 9, 5, 10, 19, 20, 21, 22, 23, 24, 25, 26, 27, 28, 29, 30, 31, 32, 33, 34, 35, 36] (by decide +kernel) (by decide +kernel)
set_option maxRecDepth 20000 in
theorem gX5_whyKept_X5_fee : GoodIn wsX5_whyKept (wsV RX5 70 RX5 yX5_fee wsX5_fee) := goodIn_app (goodIn_of _ (by decide +kernel)) ggX5_whyKept_X5_fee
theorem dX5_whyKept_0 : decode cX5_whyKept 0 = .ok (.aload_n 0, 1) := by decide +kernel
theorem dX5_whyKept_1 : decode cX5_whyKept 1 = .ok (.getfield 7, 3) := by decide +kernel
theorem dX5_whyKept_4 : decode cX5_whyKept 4 = .ok (.iconst 2, 1) := by decide +kernel
theorem dX5_whyKept_5 : decode cX5_whyKept 5 = .ok (.iaload, 1) := by decide +kernel
theorem dX5_whyKept_6 : decode cX5_whyKept 6 = .ok (.iconst 1, 1) := by decide +kernel
theorem dX5_whyKept_7 : decode cX5_whyKept 7 = .ok (.if_icmp .ne 5, 3) := by decide +kernel
theorem dX5_whyKept_10 : decode cX5_whyKept 10 = .ok (.iconst 1, 1) := by decide +kernel
theorem dX5_whyKept_11 : decode cX5_whyKept 11 = .ok (.ireturn, 1) := by decide +kernel
theorem dX5_whyKept_12 : decode cX5_whyKept 12 = .ok (.aload_n 0, 1) := by decide +kernel
theorem dX5_whyKept_13 : decode cX5_whyKept 13 = .ok (.iload_n 1, 1) := by decide +kernel
theorem dX5_whyKept_14 : decode cX5_whyKept 14 = .ok (.iload_n 2, 1) := by decide +kernel
theorem dX5_whyKept_15 : decode cX5_whyKept 15 = .ok (.invokevirtual 46, 3) := by decide +kernel
theorem dX5_whyKept_18 : decode cX5_whyKept 18 = .ok (.ifCond .ne 7, 3) := by decide +kernel
theorem dX5_whyKept_21 : decode cX5_whyKept 21 = .ok (.iconst 2, 1) := by decide +kernel
theorem dX5_whyKept_22 : decode cX5_whyKept 22 = .ok (.goto 23, 3) := by decide +kernel
theorem dX5_whyKept_25 : decode cX5_whyKept 25 = .ok (.aload_n 0, 1) := by decide +kernel
theorem dX5_whyKept_26 : decode cX5_whyKept 26 = .ok (.iload_n 1, 1) := by decide +kernel
theorem dX5_whyKept_27 : decode cX5_whyKept 27 = .ok (.iconst 0, 1) := by decide +kernel
theorem dX5_whyKept_28 : decode cX5_whyKept 28 = .ok (.invokevirtual 56, 3) := by decide +kernel
theorem dX5_whyKept_31 : decode cX5_whyKept 31 = .ok (.aload_n 0, 1) := by decide +kernel
theorem dX5_whyKept_32 : decode cX5_whyKept 32 = .ok (.iload_n 1, 1) := by decide +kernel
theorem dX5_whyKept_33 : decode cX5_whyKept 33 = .ok (.iload_n 2, 1) := by decide +kernel
theorem dX5_whyKept_34 : decode cX5_whyKept 34 = .ok (.invokevirtual 70, 3) := by decide +kernel
theorem dX5_whyKept_37 : decode cX5_whyKept 37 = .ok (.if_icmp .ge 7, 3) := by decide +kernel
theorem dX5_whyKept_40 : decode cX5_whyKept 40 = .ok (.iconst 3, 1) := by decide +kernel
theorem dX5_whyKept_41 : decode cX5_whyKept 41 = .ok (.goto 4, 3) := by decide +kernel
theorem dX5_whyKept_44 : decode cX5_whyKept 44 = .ok (.iconst 0, 1) := by decide +kernel
theorem dX5_whyKept_45 : decode cX5_whyKept 45 = .ok (.ireturn, 1) := by decide +kernel
set_option maxRecDepth 20000 in
theorem ggX5_seals_X5_bidAt : GoodIn wsX5_seals wsX5_bidAt := goodIn_r _ [6] (by decide +kernel) (by decide +kernel)
set_option maxRecDepth 20000 in
theorem gX5_seals_X5_bidAt : GoodIn wsX5_seals (wsV RX5 36 RX5 yX5_bidAt wsX5_bidAt) := goodIn_app (goodIn_of _ (by decide +kernel)) ggX5_seals_X5_bidAt
theorem dX5_seals_0 : decode cX5_seals 0 = .ok (.aload_n 0, 1) := by decide +kernel
theorem dX5_seals_1 : decode cX5_seals 1 = .ok (.iload_n 1, 1) := by decide +kernel
theorem dX5_seals_2 : decode cX5_seals 2 = .ok (.iload_n 2, 1) := by decide +kernel
theorem dX5_seals_3 : decode cX5_seals 3 = .ok (.invokevirtual 36, 3) := by decide +kernel
theorem dX5_seals_6 : decode cX5_seals 6 = .ok (.istore 4, 2) := by decide +kernel
theorem dX5_seals_8 : decode cX5_seals 8 = .ok (.aload_n 0, 1) := by decide +kernel
theorem dX5_seals_9 : decode cX5_seals 9 = .ok (.getfield 7, 3) := by decide +kernel
theorem dX5_seals_12 : decode cX5_seals 12 = .ok (.iload 4, 2) := by decide +kernel
theorem dX5_seals_14 : decode cX5_seals 14 = .ok (.bipush 73, 2) := by decide +kernel
theorem dX5_seals_16 : decode cX5_seals 16 = .ok (.iload_n 3, 1) := by decide +kernel
theorem dX5_seals_17 : decode cX5_seals 17 = .ok (.imul, 1) := by decide +kernel
theorem dX5_seals_18 : decode cX5_seals 18 = .ok (.bipush 41, 2) := by decide +kernel
theorem dX5_seals_20 : decode cX5_seals 20 = .ok (.aload_n 0, 1) := by decide +kernel
theorem dX5_seals_21 : decode cX5_seals 21 = .ok (.getfield 7, 3) := by decide +kernel
theorem dX5_seals_24 : decode cX5_seals 24 = .ok (.bipush 11, 2) := by decide +kernel
theorem dX5_seals_26 : decode cX5_seals 26 = .ok (.iaload, 1) := by decide +kernel
theorem dX5_seals_27 : decode cX5_seals 27 = .ok (.imul, 1) := by decide +kernel
theorem dX5_seals_28 : decode cX5_seals 28 = .ok (.iadd, 1) := by decide +kernel
theorem dX5_seals_29 : decode cX5_seals 29 = .ok (.bipush 6, 2) := by decide +kernel
theorem dX5_seals_31 : decode cX5_seals 31 = .ok (.iload_n 1, 1) := by decide +kernel
theorem dX5_seals_32 : decode cX5_seals 32 = .ok (.imul, 1) := by decide +kernel
theorem dX5_seals_33 : decode cX5_seals 33 = .ok (.iadd, 1) := by decide +kernel
theorem dX5_seals_34 : decode cX5_seals 34 = .ok (.iload_n 2, 1) := by decide +kernel
theorem dX5_seals_35 : decode cX5_seals 35 = .ok (.iadd, 1) := by decide +kernel
theorem dX5_seals_36 : decode cX5_seals 36 = .ok (.sipush 4096, 3) := by decide +kernel
theorem dX5_seals_39 : decode cX5_seals 39 = .ok (.irem, 1) := by decide +kernel
theorem dX5_seals_40 : decode cX5_seals 40 = .ok (.iastore, 1) := by decide +kernel
theorem dX5_seals_41 : decode cX5_seals 41 = .ok (.aload_n 0, 1) := by decide +kernel
theorem dX5_seals_42 : decode cX5_seals 42 = .ok (.getfield 7, 3) := by decide +kernel
theorem dX5_seals_45 : decode cX5_seals 45 = .ok (.iload 4, 2) := by decide +kernel
theorem dX5_seals_47 : decode cX5_seals 47 = .ok (.iconst 1, 1) := by decide +kernel
theorem dX5_seals_48 : decode cX5_seals 48 = .ok (.iadd, 1) := by decide +kernel
theorem dX5_seals_49 : decode cX5_seals 49 = .ok (.aload_n 0, 1) := by decide +kernel
theorem dX5_seals_50 : decode cX5_seals 50 = .ok (.getfield 7, 3) := by decide +kernel
theorem dX5_seals_53 : decode cX5_seals 53 = .ok (.iconst 1, 1) := by decide +kernel
theorem dX5_seals_54 : decode cX5_seals 54 = .ok (.iaload, 1) := by decide +kernel
theorem dX5_seals_55 : decode cX5_seals 55 = .ok (.iastore, 1) := by decide +kernel
theorem dX5_seals_56 : decode cX5_seals 56 = .ok (.aload_n 0, 1) := by decide +kernel
theorem dX5_seals_57 : decode cX5_seals 57 = .ok (.getfield 7, 3) := by decide +kernel
theorem dX5_seals_60 : decode cX5_seals 60 = .ok (.iload 4, 2) := by decide +kernel
theorem dX5_seals_62 : decode cX5_seals 62 = .ok (.iconst 2, 1) := by decide +kernel
theorem dX5_seals_63 : decode cX5_seals 63 = .ok (.iadd, 1) := by decide +kernel
theorem dX5_seals_64 : decode cX5_seals 64 = .ok (.iload_n 3, 1) := by decide +kernel
theorem dX5_seals_65 : decode cX5_seals 65 = .ok (.iastore, 1) := by decide +kernel
theorem dX5_seals_66 : decode cX5_seals 66 = .ok (.aload_n 0, 1) := by decide +kernel
theorem dX5_seals_67 : decode cX5_seals 67 = .ok (.getfield 7, 3) := by decide +kernel
theorem dX5_seals_70 : decode cX5_seals 70 = .ok (.bipush 11, 2) := by decide +kernel
theorem dX5_seals_72 : decode cX5_seals 72 = .ok (.dup2, 1) := by decide +kernel
theorem dX5_seals_73 : decode cX5_seals 73 = .ok (.iaload, 1) := by decide +kernel
theorem dX5_seals_74 : decode cX5_seals 74 = .ok (.iconst 1, 1) := by decide +kernel
theorem dX5_seals_75 : decode cX5_seals 75 = .ok (.iadd, 1) := by decide +kernel
theorem dX5_seals_76 : decode cX5_seals 76 = .ok (.iastore, 1) := by decide +kernel
theorem dX5_seals_77 : decode cX5_seals 77 = .ok (.aload_n 0, 1) := by decide +kernel
theorem dX5_seals_78 : decode cX5_seals 78 = .ok (.getfield 7, 3) := by decide +kernel
theorem dX5_seals_81 : decode cX5_seals 81 = .ok (.bipush 9, 2) := by decide +kernel
theorem dX5_seals_83 : decode cX5_seals 83 = .ok (.dup2, 1) := by decide +kernel
theorem dX5_seals_84 : decode cX5_seals 84 = .ok (.iaload, 1) := by decide +kernel
theorem dX5_seals_85 : decode cX5_seals 85 = .ok (.iconst 1, 1) := by decide +kernel
theorem dX5_seals_86 : decode cX5_seals 86 = .ok (.iadd, 1) := by decide +kernel
theorem dX5_seals_87 : decode cX5_seals 87 = .ok (.iastore, 1) := by decide +kernel
theorem dX5_seals_88 : decode cX5_seals 88 = .ok (.aload_n 0, 1) := by decide +kernel
theorem dX5_seals_89 : decode cX5_seals 89 = .ok (.getfield 7, 3) := by decide +kernel
theorem dX5_seals_92 : decode cX5_seals 92 = .ok (.iload 4, 2) := by decide +kernel
theorem dX5_seals_94 : decode cX5_seals 94 = .ok (.iaload, 1) := by decide +kernel
theorem dX5_seals_95 : decode cX5_seals 95 = .ok (.ireturn, 1) := by decide +kernel
set_option maxRecDepth 20000 in
theorem ggX5_withdraws_X5_fee : GoodIn wsX5_withdraws wsX5_fee := goodIn_r _ [6, 1, 7, 8, 9, 5, 10, 15, 16, 17, 18, 19, 20, 21, 22, 23, 24, 25, 26, 27, 28, 29, 30, 31, 32] (by decide +kernel) (by decide +kernel)
set_option maxRecDepth 20000 in
theorem gX5_withdraws_X5_fee : GoodIn wsX5_withdraws (wsV RX5 70 RX5 yX5_fee wsX5_fee) := goodIn_app (goodIn_of _ (by decide +kernel)) ggX5_withdraws_X5_fee
set_option maxRecDepth 20000 in
theorem ggX5_withdraws_X5_adds : GoodIn wsX5_withdraws wsX5_adds := goodIn_r _ [14, 1, 15, 16, 17, 18, 19, 20, 21, 22, 23, 24, 25, 26, 27, 28, 29, 30, 31, 32] (by decide +kernel) (by decide +kernel)
set_option maxRecDepth 20000 in
theorem gX5_withdraws_X5_adds : GoodIn wsX5_withdraws (wsV RX5 73 RX5 yX5_adds wsX5_adds) := goodIn_app (goodIn_of _ (by decide +kernel)) ggX5_withdraws_X5_adds
set_option maxRecDepth 20000 in
theorem ggX5_withdraws_X5_bidAt : GoodIn wsX5_withdraws wsX5_bidAt := goodIn_r _ [10] (by decide +kernel) (by decide +kernel)
set_option maxRecDepth 20000 in
theorem gX5_withdraws_X5_bidAt : GoodIn wsX5_withdraws (wsV RX5 36 RX5 yX5_bidAt wsX5_bidAt) := goodIn_app (goodIn_of _ (by decide +kernel)) ggX5_withdraws_X5_bidAt
theorem dX5_withdraws_0 : decode cX5_withdraws 0 = .ok (.aload_n 0, 1) := by decide +kernel
theorem dX5_withdraws_1 : decode cX5_withdraws 1 = .ok (.iload_n 1, 1) := by decide +kernel
theorem dX5_withdraws_2 : decode cX5_withdraws 2 = .ok (.iload_n 2, 1) := by decide +kernel
theorem dX5_withdraws_3 : decode cX5_withdraws 3 = .ok (.invokevirtual 70, 3) := by decide +kernel
theorem dX5_withdraws_6 : decode cX5_withdraws 6 = .ok (.istore_n 3, 1) := by decide +kernel
theorem dX5_withdraws_7 : decode cX5_withdraws 7 = .ok (.aload_n 0, 1) := by decide +kernel
theorem dX5_withdraws_8 : decode cX5_withdraws 8 = .ok (.iload_n 1, 1) := by decide +kernel
theorem dX5_withdraws_9 : decode cX5_withdraws 9 = .ok (.iconst 0, 1) := by decide +kernel
theorem dX5_withdraws_10 : decode cX5_withdraws 10 = .ok (.iload_n 3, 1) := by decide +kernel
theorem dX5_withdraws_11 : decode cX5_withdraws 11 = .ok (.ineg, 1) := by decide +kernel
theorem dX5_withdraws_12 : decode cX5_withdraws 12 = .ok (.invokevirtual 73, 3) := by decide +kernel
theorem dX5_withdraws_15 : decode cX5_withdraws 15 = .ok (.aload_n 0, 1) := by decide +kernel
theorem dX5_withdraws_16 : decode cX5_withdraws 16 = .ok (.iload_n 1, 1) := by decide +kernel
theorem dX5_withdraws_17 : decode cX5_withdraws 17 = .ok (.iconst 3, 1) := by decide +kernel
theorem dX5_withdraws_18 : decode cX5_withdraws 18 = .ok (.iload_n 3, 1) := by decide +kernel
theorem dX5_withdraws_19 : decode cX5_withdraws 19 = .ok (.invokevirtual 73, 3) := by decide +kernel
theorem dX5_withdraws_22 : decode cX5_withdraws 22 = .ok (.aload_n 0, 1) := by decide +kernel
theorem dX5_withdraws_23 : decode cX5_withdraws 23 = .ok (.getfield 7, 3) := by decide +kernel
theorem dX5_withdraws_26 : decode cX5_withdraws 26 = .ok (.iconst 3, 1) := by decide +kernel
theorem dX5_withdraws_27 : decode cX5_withdraws 27 = .ok (.dup2, 1) := by decide +kernel
theorem dX5_withdraws_28 : decode cX5_withdraws 28 = .ok (.iaload, 1) := by decide +kernel
theorem dX5_withdraws_29 : decode cX5_withdraws 29 = .ok (.iload_n 3, 1) := by decide +kernel
theorem dX5_withdraws_30 : decode cX5_withdraws 30 = .ok (.iadd, 1) := by decide +kernel
theorem dX5_withdraws_31 : decode cX5_withdraws 31 = .ok (.iastore, 1) := by decide +kernel
theorem dX5_withdraws_32 : decode cX5_withdraws 32 = .ok (.aload_n 0, 1) := by decide +kernel
theorem dX5_withdraws_33 : decode cX5_withdraws 33 = .ok (.getfield 7, 3) := by decide +kernel
theorem dX5_withdraws_36 : decode cX5_withdraws 36 = .ok (.iconst 5, 1) := by decide +kernel
theorem dX5_withdraws_37 : decode cX5_withdraws 37 = .ok (.dup2, 1) := by decide +kernel
theorem dX5_withdraws_38 : decode cX5_withdraws 38 = .ok (.iaload, 1) := by decide +kernel
theorem dX5_withdraws_39 : decode cX5_withdraws 39 = .ok (.iload_n 3, 1) := by decide +kernel
theorem dX5_withdraws_40 : decode cX5_withdraws 40 = .ok (.iadd, 1) := by decide +kernel
theorem dX5_withdraws_41 : decode cX5_withdraws 41 = .ok (.iastore, 1) := by decide +kernel
theorem dX5_withdraws_42 : decode cX5_withdraws 42 = .ok (.aload_n 0, 1) := by decide +kernel
theorem dX5_withdraws_43 : decode cX5_withdraws 43 = .ok (.getfield 7, 3) := by decide +kernel
theorem dX5_withdraws_46 : decode cX5_withdraws 46 = .ok (.bipush 10, 2) := by decide +kernel
theorem dX5_withdraws_48 : decode cX5_withdraws 48 = .ok (.dup2, 1) := by decide +kernel
theorem dX5_withdraws_49 : decode cX5_withdraws 49 = .ok (.iaload, 1) := by decide +kernel
theorem dX5_withdraws_50 : decode cX5_withdraws 50 = .ok (.iconst 1, 1) := by decide +kernel
theorem dX5_withdraws_51 : decode cX5_withdraws 51 = .ok (.iadd, 1) := by decide +kernel
theorem dX5_withdraws_52 : decode cX5_withdraws 52 = .ok (.iastore, 1) := by decide +kernel
theorem dX5_withdraws_53 : decode cX5_withdraws 53 = .ok (.aload_n 0, 1) := by decide +kernel
theorem dX5_withdraws_54 : decode cX5_withdraws 54 = .ok (.getfield 7, 3) := by decide +kernel
theorem dX5_withdraws_57 : decode cX5_withdraws 57 = .ok (.aload_n 0, 1) := by decide +kernel
theorem dX5_withdraws_58 : decode cX5_withdraws 58 = .ok (.iload_n 1, 1) := by decide +kernel
theorem dX5_withdraws_59 : decode cX5_withdraws 59 = .ok (.iload_n 2, 1) := by decide +kernel
theorem dX5_withdraws_60 : decode cX5_withdraws 60 = .ok (.invokevirtual 36, 3) := by decide +kernel
theorem dX5_withdraws_63 : decode cX5_withdraws 63 = .ok (.iconst (-1), 1) := by decide +kernel
theorem dX5_withdraws_64 : decode cX5_withdraws 64 = .ok (.iastore, 1) := by decide +kernel
theorem dX5_withdraws_65 : decode cX5_withdraws 65 = .ok (.iload_n 3, 1) := by decide +kernel
theorem dX5_withdraws_66 : decode cX5_withdraws 66 = .ok (.ireturn, 1) := by decide +kernel
theorem dX5_pauses_0 : decode cX5_pauses 0 = .ok (.aload_n 0, 1) := by decide +kernel
theorem dX5_pauses_1 : decode cX5_pauses 1 = .ok (.getfield 7, 3) := by decide +kernel
theorem dX5_pauses_4 : decode cX5_pauses 4 = .ok (.iconst 1, 1) := by decide +kernel
theorem dX5_pauses_5 : decode cX5_pauses 5 = .ok (.iaload, 1) := by decide +kernel
theorem dX5_pauses_6 : decode cX5_pauses 6 = .ok (.iload_n 1, 1) := by decide +kernel
theorem dX5_pauses_7 : decode cX5_pauses 7 = .ok (.iadd, 1) := by decide +kernel
theorem dX5_pauses_8 : decode cX5_pauses 8 = .ok (.istore_n 2, 1) := by decide +kernel
theorem dX5_pauses_9 : decode cX5_pauses 9 = .ok (.aload_n 0, 1) := by decide +kernel
theorem dX5_pauses_10 : decode cX5_pauses 10 = .ok (.getfield 7, 3) := by decide +kernel
theorem dX5_pauses_13 : decode cX5_pauses 13 = .ok (.iconst 1, 1) := by decide +kernel
theorem dX5_pauses_14 : decode cX5_pauses 14 = .ok (.iload_n 2, 1) := by decide +kernel
theorem dX5_pauses_15 : decode cX5_pauses 15 = .ok (.bipush 23, 2) := by decide +kernel
theorem dX5_pauses_17 : decode cX5_pauses 17 = .ok (.if_icmp .le 8, 3) := by decide +kernel
theorem dX5_pauses_20 : decode cX5_pauses 20 = .ok (.bipush 23, 2) := by decide +kernel
theorem dX5_pauses_22 : decode cX5_pauses 22 = .ok (.goto 4, 3) := by decide +kernel
theorem dX5_pauses_25 : decode cX5_pauses 25 = .ok (.iload_n 2, 1) := by decide +kernel
theorem dX5_pauses_26 : decode cX5_pauses 26 = .ok (.iastore, 1) := by decide +kernel
theorem dX5_pauses_27 : decode cX5_pauses 27 = .ok (.aload_n 0, 1) := by decide +kernel
theorem dX5_pauses_28 : decode cX5_pauses 28 = .ok (.getfield 7, 3) := by decide +kernel
theorem dX5_pauses_31 : decode cX5_pauses 31 = .ok (.iconst 1, 1) := by decide +kernel
theorem dX5_pauses_32 : decode cX5_pauses 32 = .ok (.iaload, 1) := by decide +kernel
theorem dX5_pauses_33 : decode cX5_pauses 33 = .ok (.ireturn, 1) := by decide +kernel
set_option maxRecDepth 20000 in
theorem ggX5_opens_X5_shares : GoodIn wsX5_opens wsX5_shares := goodIn_r _ [8, 9, 1, 2, 10, 11, 12, 7, 13, 14, 15, 16, 17, 18, 19, 20, 21, 22, 23, 24, 25, 26, 27, 28, 3, 29, 30, 31, 32, 33, 34, 35, 36, 37, 38, 39, 40, 41, 42, 43, 44, 53, 54, 55, 56, 57, 58, 59, 60, 61, 62, 63, 64, 65, 66, 67, 68, 69, 70] (by decide +kernel) (by decide +kernel)
set_option maxRecDepth 20000 in
theorem gX5_opens_X5_shares : GoodIn wsX5_opens (wsV RX5 77 RX5 yX5_shares wsX5_shares) := goodIn_app (goodIn_of _ (by decide +kernel)) ggX5_opens_X5_shares
set_option maxRecDepth 20000 in
theorem ggX5_opens_X5_lay : GoodIn wsX5_opens wsX5_lay := goodIn_r _ [48, 3, 53, 54, 55, 56, 57, 58, 59, 60, 61, 62, 63, 64, 65, 66, 67, 68, 69, 70] (by decide +kernel) (by decide +kernel)
set_option maxRecDepth 20000 in
theorem gX5_opens_X5_lay : GoodIn wsX5_opens (wsV RX5 80 RX5 yX5_lay wsX5_lay) := goodIn_app (goodIn_of _ (by decide +kernel)) ggX5_opens_X5_lay
set_option maxRecDepth 20000 in
theorem ggX5_opens_X5_adds : GoodIn wsX5_opens wsX5_adds := goodIn_r _ [52, 3, 53, 54, 55, 56, 57, 58, 59, 60, 61, 62, 63, 64, 65, 66, 67, 68, 69, 70] (by decide +kernel) (by decide +kernel)
set_option maxRecDepth 20000 in
theorem gX5_opens_X5_adds : GoodIn wsX5_opens (wsV RX5 73 RX5 yX5_adds wsX5_adds) := goodIn_app (goodIn_of _ (by decide +kernel)) ggX5_opens_X5_adds
theorem dX5_opens_0 : decode cX5_opens 0 = .ok (.aload_n 0, 1) := by decide +kernel
theorem dX5_opens_1 : decode cX5_opens 1 = .ok (.invokevirtual 77, 3) := by decide +kernel
theorem dX5_opens_4 : decode cX5_opens 4 = .ok (.iconst 0, 1) := by decide +kernel
theorem dX5_opens_5 : decode cX5_opens 5 = .ok (.istore_n 1, 1) := by decide +kernel
theorem dX5_opens_6 : decode cX5_opens 6 = .ok (.iconst 0, 1) := by decide +kernel
theorem dX5_opens_7 : decode cX5_opens 7 = .ok (.istore_n 2, 1) := by decide +kernel
theorem dX5_opens_8 : decode cX5_opens 8 = .ok (.iload_n 2, 1) := by decide +kernel
theorem dX5_opens_9 : decode cX5_opens 9 = .ok (.bipush 6, 2) := by decide +kernel
theorem dX5_opens_11 : decode cX5_opens 11 = .ok (.if_icmp .ge 112, 3) := by decide +kernel
theorem dX5_opens_14 : decode cX5_opens 14 = .ok (.aload_n 0, 1) := by decide +kernel
theorem dX5_opens_15 : decode cX5_opens 15 = .ok (.iload_n 2, 1) := by decide +kernel
theorem dX5_opens_16 : decode cX5_opens 16 = .ok (.iconst 2, 1) := by decide +kernel
theorem dX5_opens_17 : decode cX5_opens 17 = .ok (.aload_n 0, 1) := by decide +kernel
theorem dX5_opens_18 : decode cX5_opens 18 = .ok (.getfield 23, 3) := by decide +kernel
theorem dX5_opens_21 : decode cX5_opens 21 = .ok (.iload_n 2, 1) := by decide +kernel
theorem dX5_opens_22 : decode cX5_opens 22 = .ok (.iaload, 1) := by decide +kernel
theorem dX5_opens_23 : decode cX5_opens 23 = .ok (.invokevirtual 80, 3) := by decide +kernel
theorem dX5_opens_26 : decode cX5_opens 26 = .ok (.aload_n 0, 1) := by decide +kernel
theorem dX5_opens_27 : decode cX5_opens 27 = .ok (.iload_n 2, 1) := by decide +kernel
theorem dX5_opens_28 : decode cX5_opens 28 = .ok (.iconst 3, 1) := by decide +kernel
theorem dX5_opens_29 : decode cX5_opens 29 = .ok (.aload_n 0, 1) := by decide +kernel
theorem dX5_opens_30 : decode cX5_opens 30 = .ok (.getfield 26, 3) := by decide +kernel
theorem dX5_opens_33 : decode cX5_opens 33 = .ok (.iload_n 2, 1) := by decide +kernel
theorem dX5_opens_34 : decode cX5_opens 34 = .ok (.iaload, 1) := by decide +kernel
theorem dX5_opens_35 : decode cX5_opens 35 = .ok (.invokevirtual 80, 3) := by decide +kernel
theorem dX5_opens_38 : decode cX5_opens 38 = .ok (.aload_n 0, 1) := by decide +kernel
theorem dX5_opens_39 : decode cX5_opens 39 = .ok (.getfield 23, 3) := by decide +kernel
theorem dX5_opens_42 : decode cX5_opens 42 = .ok (.iload_n 2, 1) := by decide +kernel
theorem dX5_opens_43 : decode cX5_opens 43 = .ok (.iaload, 1) := by decide +kernel
theorem dX5_opens_44 : decode cX5_opens 44 = .ok (.iconst (-1), 1) := by decide +kernel
theorem dX5_opens_45 : decode cX5_opens 45 = .ok (.if_icmp .eq 72, 3) := by decide +kernel
theorem dX5_opens_48 : decode cX5_opens 48 = .ok (.aload_n 0, 1) := by decide +kernel
theorem dX5_opens_49 : decode cX5_opens 49 = .ok (.aload_n 0, 1) := by decide +kernel
theorem dX5_opens_50 : decode cX5_opens 50 = .ok (.getfield 23, 3) := by decide +kernel
theorem dX5_opens_53 : decode cX5_opens 53 = .ok (.iload_n 2, 1) := by decide +kernel
theorem dX5_opens_54 : decode cX5_opens 54 = .ok (.iaload, 1) := by decide +kernel
theorem dX5_opens_55 : decode cX5_opens 55 = .ok (.iconst 0, 1) := by decide +kernel
theorem dX5_opens_56 : decode cX5_opens 56 = .ok (.aload_n 0, 1) := by decide +kernel
theorem dX5_opens_57 : decode cX5_opens 57 = .ok (.getfield 26, 3) := by decide +kernel
theorem dX5_opens_60 : decode cX5_opens 60 = .ok (.iload_n 2, 1) := by decide +kernel
theorem dX5_opens_61 : decode cX5_opens 61 = .ok (.iaload, 1) := by decide +kernel
theorem dX5_opens_62 : decode cX5_opens 62 = .ok (.ineg, 1) := by decide +kernel
theorem dX5_opens_63 : decode cX5_opens 63 = .ok (.invokevirtual 73, 3) := by decide +kernel
theorem dX5_opens_66 : decode cX5_opens 66 = .ok (.aload_n 0, 1) := by decide +kernel
theorem dX5_opens_67 : decode cX5_opens 67 = .ok (.aload_n 0, 1) := by decide +kernel
theorem dX5_opens_68 : decode cX5_opens 68 = .ok (.getfield 23, 3) := by decide +kernel
theorem dX5_opens_71 : decode cX5_opens 71 = .ok (.iload_n 2, 1) := by decide +kernel
theorem dX5_opens_72 : decode cX5_opens 72 = .ok (.iaload, 1) := by decide +kernel
theorem dX5_opens_73 : decode cX5_opens 73 = .ok (.iconst 2, 1) := by decide +kernel
theorem dX5_opens_74 : decode cX5_opens 74 = .ok (.aload_n 0, 1) := by decide +kernel
theorem dX5_opens_75 : decode cX5_opens 75 = .ok (.getfield 26, 3) := by decide +kernel
theorem dX5_opens_78 : decode cX5_opens 78 = .ok (.iload_n 2, 1) := by decide +kernel
theorem dX5_opens_79 : decode cX5_opens 79 = .ok (.iaload, 1) := by decide +kernel
theorem dX5_opens_80 : decode cX5_opens 80 = .ok (.invokevirtual 73, 3) := by decide +kernel
theorem dX5_opens_83 : decode cX5_opens 83 = .ok (.aload_n 0, 1) := by decide +kernel
theorem dX5_opens_84 : decode cX5_opens 84 = .ok (.getfield 7, 3) := by decide +kernel
theorem dX5_opens_87 : decode cX5_opens 87 = .ok (.iconst 3, 1) := by decide +kernel
theorem dX5_opens_88 : decode cX5_opens 88 = .ok (.dup2, 1) := by decide +kernel
theorem dX5_opens_89 : decode cX5_opens 89 = .ok (.iaload, 1) := by decide +kernel
theorem dX5_opens_90 : decode cX5_opens 90 = .ok (.aload_n 0, 1) := by decide +kernel
theorem dX5_opens_91 : decode cX5_opens 91 = .ok (.getfield 26, 3) := by decide +kernel
theorem dX5_opens_94 : decode cX5_opens 94 = .ok (.iload_n 2, 1) := by decide +kernel
theorem dX5_opens_95 : decode cX5_opens 95 = .ok (.iaload, 1) := by decide +kernel
theorem dX5_opens_96 : decode cX5_opens 96 = .ok (.iadd, 1) := by decide +kernel
theorem dX5_opens_97 : decode cX5_opens 97 = .ok (.iastore, 1) := by decide +kernel
theorem dX5_opens_98 : decode cX5_opens 98 = .ok (.aload_n 0, 1) := by decide +kernel
theorem dX5_opens_99 : decode cX5_opens 99 = .ok (.getfield 7, 3) := by decide +kernel
theorem dX5_opens_102 : decode cX5_opens 102 = .ok (.bipush 6, 2) := by decide +kernel
theorem dX5_opens_104 : decode cX5_opens 104 = .ok (.dup2, 1) := by decide +kernel
theorem dX5_opens_105 : decode cX5_opens 105 = .ok (.iaload, 1) := by decide +kernel
theorem dX5_opens_106 : decode cX5_opens 106 = .ok (.aload_n 0, 1) := by decide +kernel
theorem dX5_opens_107 : decode cX5_opens 107 = .ok (.getfield 26, 3) := by decide +kernel
theorem dX5_opens_110 : decode cX5_opens 110 = .ok (.iload_n 2, 1) := by decide +kernel
theorem dX5_opens_111 : decode cX5_opens 111 = .ok (.iaload, 1) := by decide +kernel
theorem dX5_opens_112 : decode cX5_opens 112 = .ok (.iadd, 1) := by decide +kernel
theorem dX5_opens_113 : decode cX5_opens 113 = .ok (.iastore, 1) := by decide +kernel
theorem dX5_opens_114 : decode cX5_opens 114 = .ok (.iinc 1 1, 3) := by decide +kernel
theorem dX5_opens_117 : decode cX5_opens 117 = .ok (.iinc 2 1, 3) := by decide +kernel
theorem dX5_opens_120 : decode cX5_opens 120 = .ok (.goto (-112), 3) := by decide +kernel
theorem dX5_opens_123 : decode cX5_opens 123 = .ok (.aload_n 0, 1) := by decide +kernel
theorem dX5_opens_124 : decode cX5_opens 124 = .ok (.getfield 7, 3) := by decide +kernel
theorem dX5_opens_127 : decode cX5_opens 127 = .ok (.bipush 7, 2) := by decide +kernel
theorem dX5_opens_129 : decode cX5_opens 129 = .ok (.dup2, 1) := by decide +kernel
theorem dX5_opens_130 : decode cX5_opens 130 = .ok (.iaload, 1) := by decide +kernel
theorem dX5_opens_131 : decode cX5_opens 131 = .ok (.iload_n 1, 1) := by decide +kernel
theorem dX5_opens_132 : decode cX5_opens 132 = .ok (.iadd, 1) := by decide +kernel
theorem dX5_opens_133 : decode cX5_opens 133 = .ok (.iastore, 1) := by decide +kernel
theorem dX5_opens_134 : decode cX5_opens 134 = .ok (.aload_n 0, 1) := by decide +kernel
theorem dX5_opens_135 : decode cX5_opens 135 = .ok (.getfield 7, 3) := by decide +kernel
theorem dX5_opens_138 : decode cX5_opens 138 = .ok (.iconst 2, 1) := by decide +kernel
theorem dX5_opens_139 : decode cX5_opens 139 = .ok (.iconst 1, 1) := by decide +kernel
theorem dX5_opens_140 : decode cX5_opens 140 = .ok (.iastore, 1) := by decide +kernel
theorem dX5_opens_141 : decode cX5_opens 141 = .ok (.iload_n 1, 1) := by decide +kernel
theorem dX5_opens_142 : decode cX5_opens 142 = .ok (.ireturn, 1) := by decide +kernel
set_option maxRecDepth 20000 in
theorem ggX5_spreads_X5_isOne : GoodIn wsX5_spreads wsX5_isOne := goodIn_r _ [4, 5, 6, 3, 7] (by decide +kernel) (by decide +kernel)
set_option maxRecDepth 20000 in
theorem gX5_spreads_X5_isOne : GoodIn wsX5_spreads (va_wsS RX5 83 yX5_isOne wsX5_isOne) := goodIn_app (goodIn_of _ (by decide +kernel)) ggX5_spreads_X5_isOne
set_option maxRecDepth 20000 in
theorem ggX5_spreads_X5_of : GoodIn wsX5_spreads wsX5_of := goodIn_r _ [11, 12, 17, 18, 19, 20, 21, 22, 23, 24, 25, 26, 27, 28, 29, 30, 31, 32, 33, 34] (by decide +kernel) (by decide +kernel)
set_option maxRecDepth 20000 in
theorem gX5_spreads_X5_of : GoodIn wsX5_spreads (wsV RX5 53 RX5 yX5_of wsX5_of) := goodIn_app (goodIn_of _ (by decide +kernel)) ggX5_spreads_X5_of
set_option maxRecDepth 20000 in
theorem ggX5_spreads_X5_lay : GoodIn wsX5_spreads wsX5_lay := goodIn_r _ [16, 12, 17, 18, 19, 20, 21, 22, 23, 24, 25, 26, 27, 28, 29, 30, 31, 32, 33, 34] (by decide +kernel) (by decide +kernel)
set_option maxRecDepth 20000 in
theorem gX5_spreads_X5_lay : GoodIn wsX5_spreads (wsV RX5 80 RX5 yX5_lay wsX5_lay) := goodIn_app (goodIn_of _ (by decide +kernel)) ggX5_spreads_X5_lay
theorem dX5_spreads_0 : decode cX5_spreads 0 = .ok (.iload_n 2, 1) := by decide +kernel
theorem dX5_spreads_1 : decode cX5_spreads 1 = .ok (.invokestatic 83, 3) := by decide +kernel
theorem dX5_spreads_4 : decode cX5_spreads 4 = .ok (.ifCond .eq 94, 3) := by decide +kernel
theorem dX5_spreads_7 : decode cX5_spreads 7 = .ok (.aload_n 0, 1) := by decide +kernel
theorem dX5_spreads_8 : decode cX5_spreads 8 = .ok (.iload_n 2, 1) := by decide +kernel
theorem dX5_spreads_9 : decode cX5_spreads 9 = .ok (.iconst 1, 1) := by decide +kernel
theorem dX5_spreads_10 : decode cX5_spreads 10 = .ok (.invokevirtual 53, 3) := by decide +kernel
theorem dX5_spreads_13 : decode cX5_spreads 13 = .ok (.aload_n 0, 1) := by decide +kernel
theorem dX5_spreads_14 : decode cX5_spreads 14 = .ok (.iload_n 1, 1) := by decide +kernel
theorem dX5_spreads_15 : decode cX5_spreads 15 = .ok (.iconst 1, 1) := by decide +kernel
theorem dX5_spreads_16 : decode cX5_spreads 16 = .ok (.invokevirtual 53, 3) := by decide +kernel
theorem dX5_spreads_19 : decode cX5_spreads 19 = .ok (.if_icmp .ge 79, 3) := by decide +kernel
theorem dX5_spreads_22 : decode cX5_spreads 22 = .ok (.aload_n 0, 1) := by decide +kernel
theorem dX5_spreads_23 : decode cX5_spreads 23 = .ok (.iload_n 2, 1) := by decide +kernel
theorem dX5_spreads_24 : decode cX5_spreads 24 = .ok (.iconst 2, 1) := by decide +kernel
theorem dX5_spreads_25 : decode cX5_spreads 25 = .ok (.invokevirtual 53, 3) := by decide +kernel
theorem dX5_spreads_28 : decode cX5_spreads 28 = .ok (.iconst (-1), 1) := by decide +kernel
theorem dX5_spreads_29 : decode cX5_spreads 29 = .ok (.if_icmp .ne 69, 3) := by decide +kernel
theorem dX5_spreads_32 : decode cX5_spreads 32 = .ok (.aload_n 0, 1) := by decide +kernel
theorem dX5_spreads_33 : decode cX5_spreads 33 = .ok (.iload_n 1, 1) := by decide +kernel
theorem dX5_spreads_34 : decode cX5_spreads 34 = .ok (.iconst 1, 1) := by decide +kernel
theorem dX5_spreads_35 : decode cX5_spreads 35 = .ok (.invokevirtual 53, 3) := by decide +kernel
theorem dX5_spreads_38 : decode cX5_spreads 38 = .ok (.bipush 10, 2) := by decide +kernel
theorem dX5_spreads_40 : decode cX5_spreads 40 = .ok (.idiv, 1) := by decide +kernel
theorem dX5_spreads_41 : decode cX5_spreads 41 = .ok (.istore_n 3, 1) := by decide +kernel
theorem dX5_spreads_42 : decode cX5_spreads 42 = .ok (.sipush 200, 3) := by decide +kernel
theorem dX5_spreads_45 : decode cX5_spreads 45 = .ok (.aload_n 0, 1) := by decide +kernel
theorem dX5_spreads_46 : decode cX5_spreads 46 = .ok (.iload_n 2, 1) := by decide +kernel
theorem dX5_spreads_47 : decode cX5_spreads 47 = .ok (.iconst 1, 1) := by decide +kernel
theorem dX5_spreads_48 : decode cX5_spreads 48 = .ok (.invokevirtual 53, 3) := by decide +kernel
theorem dX5_spreads_51 : decode cX5_spreads 51 = .ok (.isub, 1) := by decide +kernel
theorem dX5_spreads_52 : decode cX5_spreads 52 = .ok (.istore 4, 2) := by decide +kernel
theorem dX5_spreads_54 : decode cX5_spreads 54 = .ok (.iload_n 3, 1) := by decide +kernel
theorem dX5_spreads_55 : decode cX5_spreads 55 = .ok (.iload 4, 2) := by decide +kernel
theorem dX5_spreads_57 : decode cX5_spreads 57 = .ok (.if_icmp .ge 7, 3) := by decide +kernel
theorem dX5_spreads_60 : decode cX5_spreads 60 = .ok (.iload_n 3, 1) := by decide +kernel
theorem dX5_spreads_61 : decode cX5_spreads 61 = .ok (.goto 5, 3) := by decide +kernel
theorem dX5_spreads_64 : decode cX5_spreads 64 = .ok (.iload 4, 2) := by decide +kernel
theorem dX5_spreads_66 : decode cX5_spreads 66 = .ok (.istore 5, 2) := by decide +kernel
theorem dX5_spreads_68 : decode cX5_spreads 68 = .ok (.aload_n 0, 1) := by decide +kernel
theorem dX5_spreads_69 : decode cX5_spreads 69 = .ok (.iload_n 1, 1) := by decide +kernel
theorem dX5_spreads_70 : decode cX5_spreads 70 = .ok (.iconst 1, 1) := by decide +kernel
theorem dX5_spreads_71 : decode cX5_spreads 71 = .ok (.aload_n 0, 1) := by decide +kernel
theorem dX5_spreads_72 : decode cX5_spreads 72 = .ok (.iload_n 1, 1) := by decide +kernel
theorem dX5_spreads_73 : decode cX5_spreads 73 = .ok (.iconst 1, 1) := by decide +kernel
theorem dX5_spreads_74 : decode cX5_spreads 74 = .ok (.invokevirtual 53, 3) := by decide +kernel
theorem dX5_spreads_77 : decode cX5_spreads 77 = .ok (.iload 5, 2) := by decide +kernel
theorem dX5_spreads_79 : decode cX5_spreads 79 = .ok (.isub, 1) := by decide +kernel
theorem dX5_spreads_80 : decode cX5_spreads 80 = .ok (.invokevirtual 80, 3) := by decide +kernel
theorem dX5_spreads_83 : decode cX5_spreads 83 = .ok (.aload_n 0, 1) := by decide +kernel
theorem dX5_spreads_84 : decode cX5_spreads 84 = .ok (.iload_n 2, 1) := by decide +kernel
theorem dX5_spreads_85 : decode cX5_spreads 85 = .ok (.iconst 1, 1) := by decide +kernel
theorem dX5_spreads_86 : decode cX5_spreads 86 = .ok (.aload_n 0, 1) := by decide +kernel
theorem dX5_spreads_87 : decode cX5_spreads 87 = .ok (.iload_n 2, 1) := by decide +kernel
theorem dX5_spreads_88 : decode cX5_spreads 88 = .ok (.iconst 1, 1) := by decide +kernel
theorem dX5_spreads_89 : decode cX5_spreads 89 = .ok (.invokevirtual 53, 3) := by decide +kernel
theorem dX5_spreads_92 : decode cX5_spreads 92 = .ok (.iload 5, 2) := by decide +kernel
theorem dX5_spreads_94 : decode cX5_spreads 94 = .ok (.iadd, 1) := by decide +kernel
theorem dX5_spreads_95 : decode cX5_spreads 95 = .ok (.invokevirtual 80, 3) := by decide +kernel
theorem dX5_spreads_98 : decode cX5_spreads 98 = .ok (.return_, 1) := by decide +kernel
set_option maxRecDepth 20000 in
theorem ggX5_fishes_X5_of : GoodIn wsX5_fishes wsX5_of := goodIn_r _ [6, 1, 25, 26, 27, 28, 29, 30, 31, 32, 33, 34, 35, 36, 37, 38, 39, 40, 41, 42] (by decide +kernel) (by decide +kernel)
set_option maxRecDepth 20000 in
theorem gX5_fishes_X5_of : GoodIn wsX5_fishes (wsV RX5 53 RX5 yX5_of wsX5_of) := goodIn_app (goodIn_of _ (by decide +kernel)) ggX5_fishes_X5_of
set_option maxRecDepth 20000 in
theorem ggX5_fishes_X5_lay : GoodIn wsX5_fishes wsX5_lay := goodIn_r _ [10, 1, 25, 26, 27, 28, 29, 30, 31, 32, 33, 34, 35, 36, 37, 38, 39, 40, 41, 42] (by decide +kernel) (by decide +kernel)
set_option maxRecDepth 20000 in
theorem gX5_fishes_X5_lay : GoodIn wsX5_fishes (wsV RX5 80 RX5 yX5_lay wsX5_lay) := goodIn_app (goodIn_of _ (by decide +kernel)) ggX5_fishes_X5_lay
set_option maxRecDepth 20000 in
theorem ggX5_fishes_X5_adds : GoodIn wsX5_fishes wsX5_adds := goodIn_r _ [14, 1, 25, 26, 27, 28, 29, 30, 31, 32, 33, 34, 35, 36, 37, 38, 39, 40, 41, 42] (by decide +kernel) (by decide +kernel)
set_option maxRecDepth 20000 in
theorem gX5_fishes_X5_adds : GoodIn wsX5_fishes (wsV RX5 73 RX5 yX5_adds wsX5_adds) := goodIn_app (goodIn_of _ (by decide +kernel)) ggX5_fishes_X5_adds
set_option maxRecDepth 20000 in
theorem ggX5_fishes_X5_spreads : GoodIn wsX5_fishes wsX5_spreads := goodIn_r _ [18, 19, 20, 5, 21, 22, 23, 24, 2, 3, 4, 6, 1, 7, 8, 9, 10, 25, 26, 27, 28, 29, 30, 31, 32, 33, 34, 35, 36, 37, 38, 39, 40, 41, 42] (by decide +kernel) (by decide +kernel)
set_option maxRecDepth 20000 in
theorem gX5_fishes_X5_spreads : GoodIn wsX5_fishes (wsV RX5 87 RX5 yX5_spreads wsX5_spreads) := goodIn_app (goodIn_of _ (by decide +kernel)) ggX5_fishes_X5_spreads
theorem dX5_fishes_0 : decode cX5_fishes 0 = .ok (.aload_n 0, 1) := by decide +kernel
theorem dX5_fishes_1 : decode cX5_fishes 1 = .ok (.iload_n 1, 1) := by decide +kernel
theorem dX5_fishes_2 : decode cX5_fishes 2 = .ok (.iconst 1, 1) := by decide +kernel
theorem dX5_fishes_3 : decode cX5_fishes 3 = .ok (.invokevirtual 53, 3) := by decide +kernel
theorem dX5_fishes_6 : decode cX5_fishes 6 = .ok (.istore_n 2, 1) := by decide +kernel
theorem dX5_fishes_7 : decode cX5_fishes 7 = .ok (.iload_n 2, 1) := by decide +kernel
theorem dX5_fishes_8 : decode cX5_fishes 8 = .ok (.iconst 4, 1) := by decide +kernel
theorem dX5_fishes_9 : decode cX5_fishes 9 = .ok (.idiv, 1) := by decide +kernel
theorem dX5_fishes_10 : decode cX5_fishes 10 = .ok (.iconst 1, 1) := by decide +kernel
theorem dX5_fishes_11 : decode cX5_fishes 11 = .ok (.iadd, 1) := by decide +kernel
theorem dX5_fishes_12 : decode cX5_fishes 12 = .ok (.iload_n 2, 1) := by decide +kernel
theorem dX5_fishes_13 : decode cX5_fishes 13 = .ok (.if_icmp .ge 11, 3) := by decide +kernel
theorem dX5_fishes_16 : decode cX5_fishes 16 = .ok (.iload_n 2, 1) := by decide +kernel
theorem dX5_fishes_17 : decode cX5_fishes 17 = .ok (.iconst 4, 1) := by decide +kernel
theorem dX5_fishes_18 : decode cX5_fishes 18 = .ok (.idiv, 1) := by decide +kernel
theorem dX5_fishes_19 : decode cX5_fishes 19 = .ok (.iconst 1, 1) := by decide +kernel
theorem dX5_fishes_20 : decode cX5_fishes 20 = .ok (.iadd, 1) := by decide +kernel
theorem dX5_fishes_21 : decode cX5_fishes 21 = .ok (.goto 4, 3) := by decide +kernel
theorem dX5_fishes_24 : decode cX5_fishes 24 = .ok (.iload_n 2, 1) := by decide +kernel
theorem dX5_fishes_25 : decode cX5_fishes 25 = .ok (.istore_n 3, 1) := by decide +kernel
theorem dX5_fishes_26 : decode cX5_fishes 26 = .ok (.aload_n 0, 1) := by decide +kernel
theorem dX5_fishes_27 : decode cX5_fishes 27 = .ok (.iload_n 1, 1) := by decide +kernel
theorem dX5_fishes_28 : decode cX5_fishes 28 = .ok (.iconst 1, 1) := by decide +kernel
theorem dX5_fishes_29 : decode cX5_fishes 29 = .ok (.iload_n 2, 1) := by decide +kernel
theorem dX5_fishes_30 : decode cX5_fishes 30 = .ok (.iload_n 3, 1) := by decide +kernel
theorem dX5_fishes_31 : decode cX5_fishes 31 = .ok (.isub, 1) := by decide +kernel
theorem dX5_fishes_32 : decode cX5_fishes 32 = .ok (.invokevirtual 80, 3) := by decide +kernel
theorem dX5_fishes_35 : decode cX5_fishes 35 = .ok (.aload_n 0, 1) := by decide +kernel
theorem dX5_fishes_36 : decode cX5_fishes 36 = .ok (.iload_n 1, 1) := by decide +kernel
theorem dX5_fishes_37 : decode cX5_fishes 37 = .ok (.iconst 4, 1) := by decide +kernel
theorem dX5_fishes_38 : decode cX5_fishes 38 = .ok (.aload_n 0, 1) := by decide +kernel
theorem dX5_fishes_39 : decode cX5_fishes 39 = .ok (.iload_n 1, 1) := by decide +kernel
theorem dX5_fishes_40 : decode cX5_fishes 40 = .ok (.iconst 4, 1) := by decide +kernel
theorem dX5_fishes_41 : decode cX5_fishes 41 = .ok (.invokevirtual 53, 3) := by decide +kernel
theorem dX5_fishes_44 : decode cX5_fishes 44 = .ok (.iload_n 3, 1) := by decide +kernel
theorem dX5_fishes_45 : decode cX5_fishes 45 = .ok (.iadd, 1) := by decide +kernel
theorem dX5_fishes_46 : decode cX5_fishes 46 = .ok (.invokevirtual 80, 3) := by decide +kernel
theorem dX5_fishes_49 : decode cX5_fishes 49 = .ok (.aload_n 0, 1) := by decide +kernel
theorem dX5_fishes_50 : decode cX5_fishes 50 = .ok (.aload_n 0, 1) := by decide +kernel
theorem dX5_fishes_51 : decode cX5_fishes 51 = .ok (.iload_n 1, 1) := by decide +kernel
theorem dX5_fishes_52 : decode cX5_fishes 52 = .ok (.iconst 2, 1) := by decide +kernel
theorem dX5_fishes_53 : decode cX5_fishes 53 = .ok (.invokevirtual 53, 3) := by decide +kernel
theorem dX5_fishes_56 : decode cX5_fishes 56 = .ok (.iconst 1, 1) := by decide +kernel
theorem dX5_fishes_57 : decode cX5_fishes 57 = .ok (.iload_n 3, 1) := by decide +kernel
theorem dX5_fishes_58 : decode cX5_fishes 58 = .ok (.invokevirtual 73, 3) := by decide +kernel
theorem dX5_fishes_61 : decode cX5_fishes 61 = .ok (.aload_n 0, 1) := by decide +kernel
theorem dX5_fishes_62 : decode cX5_fishes 62 = .ok (.getfield 7, 3) := by decide +kernel
theorem dX5_fishes_65 : decode cX5_fishes 65 = .ok (.bipush 8, 2) := by decide +kernel
theorem dX5_fishes_67 : decode cX5_fishes 67 = .ok (.dup2, 1) := by decide +kernel
theorem dX5_fishes_68 : decode cX5_fishes 68 = .ok (.iaload, 1) := by decide +kernel
theorem dX5_fishes_69 : decode cX5_fishes 69 = .ok (.iload_n 3, 1) := by decide +kernel
theorem dX5_fishes_70 : decode cX5_fishes 70 = .ok (.iadd, 1) := by decide +kernel
theorem dX5_fishes_71 : decode cX5_fishes 71 = .ok (.iastore, 1) := by decide +kernel
theorem dX5_fishes_72 : decode cX5_fishes 72 = .ok (.aload_n 0, 1) := by decide +kernel
theorem dX5_fishes_73 : decode cX5_fishes 73 = .ok (.iload_n 1, 1) := by decide +kernel
theorem dX5_fishes_74 : decode cX5_fishes 74 = .ok (.iload_n 1, 1) := by decide +kernel
theorem dX5_fishes_75 : decode cX5_fishes 75 = .ok (.iconst 1, 1) := by decide +kernel
theorem dX5_fishes_76 : decode cX5_fishes 76 = .ok (.isub, 1) := by decide +kernel
theorem dX5_fishes_77 : decode cX5_fishes 77 = .ok (.invokevirtual 87, 3) := by decide +kernel
theorem dX5_fishes_80 : decode cX5_fishes 80 = .ok (.aload_n 0, 1) := by decide +kernel
theorem dX5_fishes_81 : decode cX5_fishes 81 = .ok (.iload_n 1, 1) := by decide +kernel
theorem dX5_fishes_82 : decode cX5_fishes 82 = .ok (.iload_n 1, 1) := by decide +kernel
theorem dX5_fishes_83 : decode cX5_fishes 83 = .ok (.iconst 1, 1) := by decide +kernel
theorem dX5_fishes_84 : decode cX5_fishes 84 = .ok (.iadd, 1) := by decide +kernel
theorem dX5_fishes_85 : decode cX5_fishes 85 = .ok (.invokevirtual 87, 3) := by decide +kernel
theorem dX5_fishes_88 : decode cX5_fishes 88 = .ok (.iload_n 3, 1) := by decide +kernel
theorem dX5_fishes_89 : decode cX5_fishes 89 = .ok (.ireturn, 1) := by decide +kernel
set_option maxRecDepth 20000 in
theorem ggX5_dawns_X5_of : GoodIn wsX5_dawns wsX5_of := goodIn_r _ [6, 1, 11, 12, 13, 14, 15, 16, 17, 18, 19, 20, 21, 22, 23, 24, 25, 26, 27, 28] (by decide +kernel) (by decide +kernel)
set_option maxRecDepth 20000 in
theorem gX5_dawns_X5_of : GoodIn wsX5_dawns (wsV RX5 53 RX5 yX5_of wsX5_of) := goodIn_app (goodIn_of _ (by decide +kernel)) ggX5_dawns_X5_of
set_option maxRecDepth 20000 in
theorem ggX5_dawns_X5_lay : GoodIn wsX5_dawns wsX5_lay := goodIn_r _ [10, 1, 11, 12, 13, 14, 15, 16, 17, 18, 19, 20, 21, 22, 23, 24, 25, 26, 27, 28] (by decide +kernel) (by decide +kernel)
set_option maxRecDepth 20000 in
theorem gX5_dawns_X5_lay : GoodIn wsX5_dawns (wsV RX5 80 RX5 yX5_lay wsX5_lay) := goodIn_app (goodIn_of _ (by decide +kernel)) ggX5_dawns_X5_lay
theorem dX5_dawns_0 : decode cX5_dawns 0 = .ok (.iconst 0, 1) := by decide +kernel
theorem dX5_dawns_1 : decode cX5_dawns 1 = .ok (.istore_n 1, 1) := by decide +kernel
theorem dX5_dawns_2 : decode cX5_dawns 2 = .ok (.iconst 0, 1) := by decide +kernel
theorem dX5_dawns_3 : decode cX5_dawns 3 = .ok (.istore_n 2, 1) := by decide +kernel
theorem dX5_dawns_4 : decode cX5_dawns 4 = .ok (.iload_n 2, 1) := by decide +kernel
theorem dX5_dawns_5 : decode cX5_dawns 5 = .ok (.bipush 6, 2) := by decide +kernel
theorem dX5_dawns_7 : decode cX5_dawns 7 = .ok (.if_icmp .ge 78, 3) := by decide +kernel
theorem dX5_dawns_10 : decode cX5_dawns 10 = .ok (.sipush 200, 3) := by decide +kernel
theorem dX5_dawns_13 : decode cX5_dawns 13 = .ok (.aload_n 0, 1) := by decide +kernel
theorem dX5_dawns_14 : decode cX5_dawns 14 = .ok (.iload_n 2, 1) := by decide +kernel
theorem dX5_dawns_15 : decode cX5_dawns 15 = .ok (.iconst 1, 1) := by decide +kernel
theorem dX5_dawns_16 : decode cX5_dawns 16 = .ok (.invokevirtual 53, 3) := by decide +kernel
theorem dX5_dawns_19 : decode cX5_dawns 19 = .ok (.isub, 1) := by decide +kernel
theorem dX5_dawns_20 : decode cX5_dawns 20 = .ok (.istore_n 3, 1) := by decide +kernel
theorem dX5_dawns_21 : decode cX5_dawns 21 = .ok (.aload_n 0, 1) := by decide +kernel
theorem dX5_dawns_22 : decode cX5_dawns 22 = .ok (.getfield 7, 3) := by decide +kernel
theorem dX5_dawns_25 : decode cX5_dawns 25 = .ok (.bipush 14, 2) := by decide +kernel
theorem dX5_dawns_27 : decode cX5_dawns 27 = .ok (.iaload, 1) := by decide +kernel
theorem dX5_dawns_28 : decode cX5_dawns 28 = .ok (.iload_n 3, 1) := by decide +kernel
theorem dX5_dawns_29 : decode cX5_dawns 29 = .ok (.if_icmp .ge 13, 3) := by decide +kernel
theorem dX5_dawns_32 : decode cX5_dawns 32 = .ok (.aload_n 0, 1) := by decide +kernel
theorem dX5_dawns_33 : decode cX5_dawns 33 = .ok (.getfield 7, 3) := by decide +kernel
theorem dX5_dawns_36 : decode cX5_dawns 36 = .ok (.bipush 14, 2) := by decide +kernel
theorem dX5_dawns_38 : decode cX5_dawns 38 = .ok (.iaload, 1) := by decide +kernel
theorem dX5_dawns_39 : decode cX5_dawns 39 = .ok (.goto 4, 3) := by decide +kernel
theorem dX5_dawns_42 : decode cX5_dawns 42 = .ok (.iload_n 3, 1) := by decide +kernel
theorem dX5_dawns_43 : decode cX5_dawns 43 = .ok (.istore 4, 2) := by decide +kernel
theorem dX5_dawns_45 : decode cX5_dawns 45 = .ok (.aload_n 0, 1) := by decide +kernel
theorem dX5_dawns_46 : decode cX5_dawns 46 = .ok (.iload_n 2, 1) := by decide +kernel
theorem dX5_dawns_47 : decode cX5_dawns 47 = .ok (.iconst 1, 1) := by decide +kernel
theorem dX5_dawns_48 : decode cX5_dawns 48 = .ok (.aload_n 0, 1) := by decide +kernel
theorem dX5_dawns_49 : decode cX5_dawns 49 = .ok (.iload_n 2, 1) := by decide +kernel
theorem dX5_dawns_50 : decode cX5_dawns 50 = .ok (.iconst 1, 1) := by decide +kernel
theorem dX5_dawns_51 : decode cX5_dawns 51 = .ok (.invokevirtual 53, 3) := by decide +kernel
theorem dX5_dawns_54 : decode cX5_dawns 54 = .ok (.iload 4, 2) := by decide +kernel
theorem dX5_dawns_56 : decode cX5_dawns 56 = .ok (.iadd, 1) := by decide +kernel
theorem dX5_dawns_57 : decode cX5_dawns 57 = .ok (.invokevirtual 80, 3) := by decide +kernel
theorem dX5_dawns_60 : decode cX5_dawns 60 = .ok (.aload_n 0, 1) := by decide +kernel
theorem dX5_dawns_61 : decode cX5_dawns 61 = .ok (.iload_n 2, 1) := by decide +kernel
theorem dX5_dawns_62 : decode cX5_dawns 62 = .ok (.iconst 2, 1) := by decide +kernel
theorem dX5_dawns_63 : decode cX5_dawns 63 = .ok (.iconst (-1), 1) := by decide +kernel
theorem dX5_dawns_64 : decode cX5_dawns 64 = .ok (.invokevirtual 80, 3) := by decide +kernel
theorem dX5_dawns_67 : decode cX5_dawns 67 = .ok (.aload_n 0, 1) := by decide +kernel
theorem dX5_dawns_68 : decode cX5_dawns 68 = .ok (.iload_n 2, 1) := by decide +kernel
theorem dX5_dawns_69 : decode cX5_dawns 69 = .ok (.iconst 3, 1) := by decide +kernel
theorem dX5_dawns_70 : decode cX5_dawns 70 = .ok (.iconst (-1), 1) := by decide +kernel
theorem dX5_dawns_71 : decode cX5_dawns 71 = .ok (.invokevirtual 80, 3) := by decide +kernel
theorem dX5_dawns_74 : decode cX5_dawns 74 = .ok (.iload_n 1, 1) := by decide +kernel
theorem dX5_dawns_75 : decode cX5_dawns 75 = .ok (.iload 4, 2) := by decide +kernel
theorem dX5_dawns_77 : decode cX5_dawns 77 = .ok (.iadd, 1) := by decide +kernel
theorem dX5_dawns_78 : decode cX5_dawns 78 = .ok (.istore_n 1, 1) := by decide +kernel
theorem dX5_dawns_79 : decode cX5_dawns 79 = .ok (.iinc 2 1, 3) := by decide +kernel
theorem dX5_dawns_82 : decode cX5_dawns 82 = .ok (.goto (-78), 3) := by decide +kernel
theorem dX5_dawns_85 : decode cX5_dawns 85 = .ok (.iconst 0, 1) := by decide +kernel
theorem dX5_dawns_86 : decode cX5_dawns 86 = .ok (.istore_n 2, 1) := by decide +kernel
theorem dX5_dawns_87 : decode cX5_dawns 87 = .ok (.iload_n 2, 1) := by decide +kernel
theorem dX5_dawns_88 : decode cX5_dawns 88 = .ok (.bipush 36, 2) := by decide +kernel
theorem dX5_dawns_90 : decode cX5_dawns 90 = .ok (.if_icmp .ge 21, 3) := by decide +kernel
theorem dX5_dawns_93 : decode cX5_dawns 93 = .ok (.aload_n 0, 1) := by decide +kernel
theorem dX5_dawns_94 : decode cX5_dawns 94 = .ok (.getfield 7, 3) := by decide +kernel
theorem dX5_dawns_97 : decode cX5_dawns 97 = .ok (.bipush 69, 2) := by decide +kernel
theorem dX5_dawns_99 : decode cX5_dawns 99 = .ok (.iconst 3, 1) := by decide +kernel
theorem dX5_dawns_100 : decode cX5_dawns 100 = .ok (.iload_n 2, 1) := by decide +kernel
theorem dX5_dawns_101 : decode cX5_dawns 101 = .ok (.imul, 1) := by decide +kernel
theorem dX5_dawns_102 : decode cX5_dawns 102 = .ok (.iadd, 1) := by decide +kernel
theorem dX5_dawns_103 : decode cX5_dawns 103 = .ok (.iconst (-1), 1) := by decide +kernel
theorem dX5_dawns_104 : decode cX5_dawns 104 = .ok (.iastore, 1) := by decide +kernel
theorem dX5_dawns_105 : decode cX5_dawns 105 = .ok (.iinc 2 1, 3) := by decide +kernel
theorem dX5_dawns_108 : decode cX5_dawns 108 = .ok (.goto (-21), 3) := by decide +kernel
theorem dX5_dawns_111 : decode cX5_dawns 111 = .ok (.aload_n 0, 1) := by decide +kernel
theorem dX5_dawns_112 : decode cX5_dawns 112 = .ok (.getfield 7, 3) := by decide +kernel
theorem dX5_dawns_115 : decode cX5_dawns 115 = .ok (.iconst 0, 1) := by decide +kernel
theorem dX5_dawns_116 : decode cX5_dawns 116 = .ok (.dup2, 1) := by decide +kernel
theorem dX5_dawns_117 : decode cX5_dawns 117 = .ok (.iaload, 1) := by decide +kernel
theorem dX5_dawns_118 : decode cX5_dawns 118 = .ok (.iconst 1, 1) := by decide +kernel
theorem dX5_dawns_119 : decode cX5_dawns 119 = .ok (.iadd, 1) := by decide +kernel
theorem dX5_dawns_120 : decode cX5_dawns 120 = .ok (.iastore, 1) := by decide +kernel
theorem dX5_dawns_121 : decode cX5_dawns 121 = .ok (.aload_n 0, 1) := by decide +kernel
theorem dX5_dawns_122 : decode cX5_dawns 122 = .ok (.getfield 7, 3) := by decide +kernel
theorem dX5_dawns_125 : decode cX5_dawns 125 = .ok (.iconst 1, 1) := by decide +kernel
theorem dX5_dawns_126 : decode cX5_dawns 126 = .ok (.iconst 0, 1) := by decide +kernel
theorem dX5_dawns_127 : decode cX5_dawns 127 = .ok (.iastore, 1) := by decide +kernel
theorem dX5_dawns_128 : decode cX5_dawns 128 = .ok (.aload_n 0, 1) := by decide +kernel
theorem dX5_dawns_129 : decode cX5_dawns 129 = .ok (.getfield 7, 3) := by decide +kernel
theorem dX5_dawns_132 : decode cX5_dawns 132 = .ok (.iconst 2, 1) := by decide +kernel
theorem dX5_dawns_133 : decode cX5_dawns 133 = .ok (.iconst 0, 1) := by decide +kernel
theorem dX5_dawns_134 : decode cX5_dawns 134 = .ok (.iastore, 1) := by decide +kernel
theorem dX5_dawns_135 : decode cX5_dawns 135 = .ok (.aload_n 0, 1) := by decide +kernel
theorem dX5_dawns_136 : decode cX5_dawns 136 = .ok (.getfield 7, 3) := by decide +kernel
theorem dX5_dawns_139 : decode cX5_dawns 139 = .ok (.bipush 11, 2) := by decide +kernel
theorem dX5_dawns_141 : decode cX5_dawns 141 = .ok (.iconst 0, 1) := by decide +kernel
theorem dX5_dawns_142 : decode cX5_dawns 142 = .ok (.iastore, 1) := by decide +kernel
theorem dX5_dawns_143 : decode cX5_dawns 143 = .ok (.iload_n 1, 1) := by decide +kernel
theorem dX5_dawns_144 : decode cX5_dawns 144 = .ok (.ireturn, 1) := by decide +kernel
set_option maxRecDepth 20000 in
theorem ggX5_canFish_X5_of : GoodIn wsX5_canFish wsX5_of := goodIn_r _ [6, 1, 7, 8, 9, 10, 11, 12, 13, 14, 15, 16, 17, 18, 19, 20, 21, 22, 23, 24] (by decide +kernel) (by decide +kernel)
set_option maxRecDepth 20000 in
theorem gX5_canFish_X5_of : GoodIn wsX5_canFish (wsV RX5 53 RX5 yX5_of wsX5_of) := goodIn_app (goodIn_of _ (by decide +kernel)) ggX5_canFish_X5_of
theorem dX5_canFish_0 : decode cX5_canFish 0 = .ok (.aload_n 0, 1) := by decide +kernel
theorem dX5_canFish_1 : decode cX5_canFish 1 = .ok (.getfield 7, 3) := by decide +kernel
theorem dX5_canFish_4 : decode cX5_canFish 4 = .ok (.iconst 2, 1) := by decide +kernel
theorem dX5_canFish_5 : decode cX5_canFish 5 = .ok (.iaload, 1) := by decide +kernel
theorem dX5_canFish_6 : decode cX5_canFish 6 = .ok (.iconst 1, 1) := by decide +kernel
theorem dX5_canFish_7 : decode cX5_canFish 7 = .ok (.if_icmp .ne 17, 3) := by decide +kernel
theorem dX5_canFish_10 : decode cX5_canFish 10 = .ok (.aload_n 0, 1) := by decide +kernel
theorem dX5_canFish_11 : decode cX5_canFish 11 = .ok (.iload_n 1, 1) := by decide +kernel
theorem dX5_canFish_12 : decode cX5_canFish 12 = .ok (.iconst 2, 1) := by decide +kernel
theorem dX5_canFish_13 : decode cX5_canFish 13 = .ok (.invokevirtual 53, 3) := by decide +kernel
theorem dX5_canFish_16 : decode cX5_canFish 16 = .ok (.iconst (-1), 1) := by decide +kernel
theorem dX5_canFish_17 : decode cX5_canFish 17 = .ok (.if_icmp .eq 7, 3) := by decide +kernel
theorem dX5_canFish_20 : decode cX5_canFish 20 = .ok (.iconst 1, 1) := by decide +kernel
theorem dX5_canFish_21 : decode cX5_canFish 21 = .ok (.goto 4, 3) := by decide +kernel
theorem dX5_canFish_24 : decode cX5_canFish 24 = .ok (.iconst 0, 1) := by decide +kernel
theorem dX5_canFish_25 : decode cX5_canFish 25 = .ok (.ireturn, 1) := by decide +kernel
theorem dX5_copies_0 : decode cX5_copies 0 = .ok (.iconst 0, 1) := by decide +kernel
theorem dX5_copies_1 : decode cX5_copies 1 = .ok (.istore_n 3, 1) := by decide +kernel
theorem dX5_copies_2 : decode cX5_copies 2 = .ok (.iload_n 3, 1) := by decide +kernel
theorem dX5_copies_3 : decode cX5_copies 3 = .ok (.sipush 177, 3) := by decide +kernel
theorem dX5_copies_6 : decode cX5_copies 6 = .ok (.if_icmp .ge 33, 3) := by decide +kernel
theorem dX5_copies_9 : decode cX5_copies 9 = .ok (.aload_n 0, 1) := by decide +kernel
theorem dX5_copies_10 : decode cX5_copies 10 = .ok (.getfield 7, 3) := by decide +kernel
theorem dX5_copies_13 : decode cX5_copies 13 = .ok (.sipush 177, 3) := by decide +kernel
theorem dX5_copies_16 : decode cX5_copies 16 = .ok (.iload_n 2, 1) := by decide +kernel
theorem dX5_copies_17 : decode cX5_copies 17 = .ok (.imul, 1) := by decide +kernel
theorem dX5_copies_18 : decode cX5_copies 18 = .ok (.iload_n 3, 1) := by decide +kernel
theorem dX5_copies_19 : decode cX5_copies 19 = .ok (.iadd, 1) := by decide +kernel
theorem dX5_copies_20 : decode cX5_copies 20 = .ok (.aload_n 0, 1) := by decide +kernel
theorem dX5_copies_21 : decode cX5_copies 21 = .ok (.getfield 7, 3) := by decide +kernel
theorem dX5_copies_24 : decode cX5_copies 24 = .ok (.sipush 177, 3) := by decide +kernel
theorem dX5_copies_27 : decode cX5_copies 27 = .ok (.iload_n 1, 1) := by decide +kernel
theorem dX5_copies_28 : decode cX5_copies 28 = .ok (.imul, 1) := by decide +kernel
theorem dX5_copies_29 : decode cX5_copies 29 = .ok (.iload_n 3, 1) := by decide +kernel
theorem dX5_copies_30 : decode cX5_copies 30 = .ok (.iadd, 1) := by decide +kernel
theorem dX5_copies_31 : decode cX5_copies 31 = .ok (.iaload, 1) := by decide +kernel
theorem dX5_copies_32 : decode cX5_copies 32 = .ok (.iastore, 1) := by decide +kernel
theorem dX5_copies_33 : decode cX5_copies 33 = .ok (.iinc 3 1, 3) := by decide +kernel
theorem dX5_copies_36 : decode cX5_copies 36 = .ok (.goto (-34), 3) := by decide +kernel
theorem dX5_copies_39 : decode cX5_copies 39 = .ok (.return_, 1) := by decide +kernel
set_option maxRecDepth 20000 in
theorem ggX5_save_X5_copies : GoodIn wsX5_save wsX5_copies := goodIn_r _ [6, 7, 8, 9, 10, 11, 12, 13, 14, 15, 16, 17, 18, 19, 20, 21, 22, 23, 24, 25] (by decide +kernel) (by decide +kernel)
set_option maxRecDepth 20000 in
theorem gX5_save_X5_copies : GoodIn wsX5_save (wsV RX5 94 RX5 yX5_copies wsX5_copies) := goodIn_app (goodIn_of _ (by decide +kernel)) ggX5_save_X5_copies
theorem dX5_save_0 : decode cX5_save 0 = .ok (.iconst 1, 1) := by decide +kernel
theorem dX5_save_1 : decode cX5_save 1 = .ok (.istore_n 1, 1) := by decide +kernel
theorem dX5_save_2 : decode cX5_save 2 = .ok (.iload_n 1, 1) := by decide +kernel
theorem dX5_save_3 : decode cX5_save 3 = .ok (.bipush 6, 2) := by decide +kernel
theorem dX5_save_5 : decode cX5_save 5 = .ok (.if_icmp .ge 26, 3) := by decide +kernel
theorem dX5_save_8 : decode cX5_save 8 = .ok (.aload_n 0, 1) := by decide +kernel
theorem dX5_save_9 : decode cX5_save 9 = .ok (.getfield 91, 3) := by decide +kernel
theorem dX5_save_12 : decode cX5_save 12 = .ok (.bipush 6, 2) := by decide +kernel
theorem dX5_save_14 : decode cX5_save 14 = .ok (.if_icmp .ne 17, 3) := by decide +kernel
theorem dX5_save_17 : decode cX5_save 17 = .ok (.aload_n 0, 1) := by decide +kernel
theorem dX5_save_18 : decode cX5_save 18 = .ok (.iload_n 1, 1) := by decide +kernel
theorem dX5_save_19 : decode cX5_save 19 = .ok (.iconst 1, 1) := by decide +kernel
theorem dX5_save_20 : decode cX5_save 20 = .ok (.iadd, 1) := by decide +kernel
theorem dX5_save_21 : decode cX5_save 21 = .ok (.iload_n 1, 1) := by decide +kernel
theorem dX5_save_22 : decode cX5_save 22 = .ok (.invokevirtual 94, 3) := by decide +kernel
theorem dX5_save_25 : decode cX5_save 25 = .ok (.iinc 1 1, 3) := by decide +kernel
theorem dX5_save_28 : decode cX5_save 28 = .ok (.goto (-26), 3) := by decide +kernel
theorem dX5_save_31 : decode cX5_save 31 = .ok (.aload_n 0, 1) := by decide +kernel
theorem dX5_save_32 : decode cX5_save 32 = .ok (.dup, 1) := by decide +kernel
theorem dX5_save_33 : decode cX5_save 33 = .ok (.getfield 91, 3) := by decide +kernel
theorem dX5_save_36 : decode cX5_save 36 = .ok (.aload_n 0, 1) := by decide +kernel
theorem dX5_save_37 : decode cX5_save 37 = .ok (.getfield 91, 3) := by decide +kernel
theorem dX5_save_40 : decode cX5_save 40 = .ok (.bipush 6, 2) := by decide +kernel
theorem dX5_save_42 : decode cX5_save 42 = .ok (.if_icmp .ge 7, 3) := by decide +kernel
theorem dX5_save_45 : decode cX5_save 45 = .ok (.iconst 1, 1) := by decide +kernel
theorem dX5_save_46 : decode cX5_save 46 = .ok (.goto 4, 3) := by decide +kernel
theorem dX5_save_49 : decode cX5_save 49 = .ok (.iconst 0, 1) := by decide +kernel
theorem dX5_save_50 : decode cX5_save 50 = .ok (.iadd, 1) := by decide +kernel
theorem dX5_save_51 : decode cX5_save 51 = .ok (.putfield 91, 3) := by decide +kernel
theorem dX5_save_54 : decode cX5_save 54 = .ok (.aload_n 0, 1) := by decide +kernel
theorem dX5_save_55 : decode cX5_save 55 = .ok (.iconst 0, 1) := by decide +kernel
theorem dX5_save_56 : decode cX5_save 56 = .ok (.aload_n 0, 1) := by decide +kernel
theorem dX5_save_57 : decode cX5_save 57 = .ok (.getfield 91, 3) := by decide +kernel
theorem dX5_save_60 : decode cX5_save 60 = .ok (.invokevirtual 94, 3) := by decide +kernel
theorem dX5_save_63 : decode cX5_save 63 = .ok (.return_, 1) := by decide +kernel
set_option maxRecDepth 20000 in
theorem ggX5_changed_X5_save : GoodIn wsX5_changed wsX5_save := goodIn_r _ [6, 7, 8, 9, 10, 5, 11, 1, 12, 13, 14, 15, 16, 17, 18, 19, 20, 21, 22, 23, 24, 25, 26, 27, 28, 29] (by decide +kernel) (by decide +kernel)
set_option maxRecDepth 20000 in
theorem gX5_changed_X5_save : GoodIn wsX5_changed (wsV RX5 97 RX5 yX5_save wsX5_save) := goodIn_app (goodIn_of _ (by decide +kernel)) ggX5_changed_X5_save
theorem dX5_changed_0 : decode cX5_changed 0 = .ok (.aload_n 0, 1) := by decide +kernel
theorem dX5_changed_1 : decode cX5_changed 1 = .ok (.invokevirtual 97, 3) := by decide +kernel
theorem dX5_changed_4 : decode cX5_changed 4 = .ok (.aload_n 0, 1) := by decide +kernel
theorem dX5_changed_5 : decode cX5_changed 5 = .ok (.getfield 7, 3) := by decide +kernel
theorem dX5_changed_8 : decode cX5_changed 8 = .ok (.iload_n 1, 1) := by decide +kernel
theorem dX5_changed_9 : decode cX5_changed 9 = .ok (.iaload, 1) := by decide +kernel
theorem dX5_changed_10 : decode cX5_changed 10 = .ok (.istore_n 3, 1) := by decide +kernel
theorem dX5_changed_11 : decode cX5_changed 11 = .ok (.aload_n 0, 1) := by decide +kernel
theorem dX5_changed_12 : decode cX5_changed 12 = .ok (.getfield 7, 3) := by decide +kernel
theorem dX5_changed_15 : decode cX5_changed 15 = .ok (.iload_n 1, 1) := by decide +kernel
theorem dX5_changed_16 : decode cX5_changed 16 = .ok (.iload_n 2, 1) := by decide +kernel
theorem dX5_changed_17 : decode cX5_changed 17 = .ok (.iastore, 1) := by decide +kernel
theorem dX5_changed_18 : decode cX5_changed 18 = .ok (.iload_n 3, 1) := by decide +kernel
theorem dX5_changed_19 : decode cX5_changed 19 = .ok (.ireturn, 1) := by decide +kernel
set_option maxRecDepth 20000 in
theorem ggX5_price_X5_isOne : GoodIn wsX5_price wsX5_isOne := goodIn_r _ [4, 5, 6, 3, 7] (by decide +kernel) (by decide +kernel)
set_option maxRecDepth 20000 in
theorem gX5_price_X5_isOne : GoodIn wsX5_price (va_wsS RX5 83 yX5_isOne wsX5_isOne) := goodIn_app (goodIn_of _ (by decide +kernel)) ggX5_price_X5_isOne
set_option maxRecDepth 20000 in
theorem ggX5_price_X5_in : GoodIn wsX5_price wsX5_in := goodIn_r _ [7] (by decide +kernel) (by decide +kernel)
set_option maxRecDepth 20000 in
theorem gX5_price_X5_in : GoodIn wsX5_price (va_wsS RX5 32 yX5_in wsX5_in) := goodIn_app (goodIn_of _ (by decide +kernel)) ggX5_price_X5_in
set_option maxRecDepth 20000 in
theorem ggX5_price_X5_holds : GoodIn wsX5_price wsX5_holds := goodIn_r _ [11, 12, 27, 28, 29, 30, 31, 32, 33, 34, 35, 36, 37, 38, 39, 40, 41, 42, 43, 44] (by decide +kernel) (by decide +kernel)
set_option maxRecDepth 20000 in
theorem gX5_price_X5_holds : GoodIn wsX5_price (wsV RX5 100 RX5 yX5_holds wsX5_holds) := goodIn_app (goodIn_of _ (by decide +kernel)) ggX5_price_X5_holds
set_option maxRecDepth 20000 in
theorem ggX5_price_X5_changed : GoodIn wsX5_price wsX5_changed := goodIn_r _ [16, 17, 18, 19, 20, 3, 21, 22, 23, 24, 25, 26, 27, 28, 29, 30, 31, 32, 33, 34, 35, 36, 37, 38, 39, 40, 41, 42, 43, 44] (by decide +kernel) (by decide +kernel)
set_option maxRecDepth 20000 in
theorem gX5_price_X5_changed : GoodIn wsX5_price (wsV RX5 103 RX5 yX5_changed wsX5_changed) := goodIn_app (goodIn_of _ (by decide +kernel)) ggX5_price_X5_changed
theorem dX5_price_0 : decode cX5_price 0 = .ok (.aload_n 0, 1) := by decide +kernel
theorem dX5_price_1 : decode cX5_price 1 = .ok (.iload_n 1, 1) := by decide +kernel
theorem dX5_price_2 : decode cX5_price 2 = .ok (.invokestatic 83, 3) := by decide +kernel
theorem dX5_price_5 : decode cX5_price 5 = .ok (.ifCond .ne 7, 3) := by decide +kernel
theorem dX5_price_8 : decode cX5_price 8 = .ok (.iconst 1, 1) := by decide +kernel
theorem dX5_price_9 : decode cX5_price 9 = .ok (.goto 18, 3) := by decide +kernel
theorem dX5_price_12 : decode cX5_price 12 = .ok (.iload_n 2, 1) := by decide +kernel
theorem dX5_price_13 : decode cX5_price 13 = .ok (.iconst 0, 1) := by decide +kernel
theorem dX5_price_14 : decode cX5_price 14 = .ok (.bipush 99, 2) := by decide +kernel
theorem dX5_price_16 : decode cX5_price 16 = .ok (.invokestatic 32, 3) := by decide +kernel
theorem dX5_price_19 : decode cX5_price 19 = .ok (.ifCond .ne 7, 3) := by decide +kernel
theorem dX5_price_22 : decode cX5_price 22 = .ok (.iconst 2, 1) := by decide +kernel
theorem dX5_price_23 : decode cX5_price 23 = .ok (.goto 4, 3) := by decide +kernel
theorem dX5_price_26 : decode cX5_price 26 = .ok (.iconst 0, 1) := by decide +kernel
theorem dX5_price_27 : decode cX5_price 27 = .ok (.invokevirtual 100, 3) := by decide +kernel
theorem dX5_price_30 : decode cX5_price 30 = .ok (.ifCond .eq 19, 3) := by decide +kernel
theorem dX5_price_33 : decode cX5_price 33 = .ok (.aload_n 0, 1) := by decide +kernel
theorem dX5_price_34 : decode cX5_price 34 = .ok (.bipush 15, 2) := by decide +kernel
theorem dX5_price_36 : decode cX5_price 36 = .ok (.iconst 5, 1) := by decide +kernel
theorem dX5_price_37 : decode cX5_price 37 = .ok (.iload_n 1, 1) := by decide +kernel
theorem dX5_price_38 : decode cX5_price 38 = .ok (.imul, 1) := by decide +kernel
theorem dX5_price_39 : decode cX5_price 39 = .ok (.iadd, 1) := by decide +kernel
theorem dX5_price_40 : decode cX5_price 40 = .ok (.iconst 0, 1) := by decide +kernel
theorem dX5_price_41 : decode cX5_price 41 = .ok (.iadd, 1) := by decide +kernel
theorem dX5_price_42 : decode cX5_price 42 = .ok (.iload_n 2, 1) := by decide +kernel
theorem dX5_price_43 : decode cX5_price 43 = .ok (.invokevirtual 103, 3) := by decide +kernel
theorem dX5_price_46 : decode cX5_price 46 = .ok (.goto 4, 3) := by decide +kernel
theorem dX5_price_49 : decode cX5_price 49 = .ok (.iconst 0, 1) := by decide +kernel
theorem dX5_price_50 : decode cX5_price 50 = .ok (.ireturn, 1) := by decide +kernel
set_option maxRecDepth 20000 in
theorem ggX5_pay_X5_isOne : GoodIn wsX5_pay wsX5_isOne := goodIn_r _ [5, 6, 7, 4, 8] (by decide +kernel) (by decide +kernel)
set_option maxRecDepth 20000 in
theorem gX5_pay_X5_isOne : GoodIn wsX5_pay (va_wsS RX5 83 yX5_isOne wsX5_isOne) := goodIn_app (goodIn_of _ (by decide +kernel)) ggX5_pay_X5_isOne
set_option maxRecDepth 20000 in
theorem ggX5_pay_X5_in : GoodIn wsX5_pay wsX5_in := goodIn_r _ [8] (by decide +kernel) (by decide +kernel)
set_option maxRecDepth 20000 in
theorem gX5_pay_X5_in : GoodIn wsX5_pay (va_wsS RX5 32 yX5_in wsX5_in) := goodIn_app (goodIn_of _ (by decide +kernel)) ggX5_pay_X5_in
set_option maxRecDepth 20000 in
theorem ggX5_pay_X5_holds : GoodIn wsX5_pay wsX5_holds := goodIn_r _ [12, 13, 31, 32, 33, 34, 35, 36, 37, 38, 39, 40, 41, 42, 43, 44, 45, 46, 47, 48] (by decide +kernel) (by decide +kernel)
set_option maxRecDepth 20000 in
theorem gX5_pay_X5_holds : GoodIn wsX5_pay (wsV RX5 100 RX5 yX5_holds wsX5_holds) := goodIn_app (goodIn_of _ (by decide +kernel)) ggX5_pay_X5_holds
set_option maxRecDepth 20000 in
theorem ggX5_pay_X5_save : GoodIn wsX5_pay wsX5_save := goodIn_r _ [17, 18, 19, 20, 21, 4, 22, 1, 31, 32, 33, 34, 35, 36, 37, 38, 39, 40, 41, 42, 43, 44, 45, 46, 47, 48] (by decide +kernel) (by decide +kernel)
set_option maxRecDepth 20000 in
theorem gX5_pay_X5_save : GoodIn wsX5_pay (wsV RX5 97 RX5 yX5_save wsX5_save) := goodIn_app (goodIn_of _ (by decide +kernel)) ggX5_pay_X5_save
set_option maxRecDepth 20000 in
theorem ggX5_pay_X5_adds : GoodIn wsX5_pay wsX5_adds := goodIn_r _ [26, 1, 31, 32, 33, 34, 35, 36, 37, 38, 39, 40, 41, 42, 43, 44, 45, 46, 47, 48] (by decide +kernel) (by decide +kernel)
set_option maxRecDepth 20000 in
theorem gX5_pay_X5_adds : GoodIn wsX5_pay (wsV RX5 73 RX5 yX5_adds wsX5_adds) := goodIn_app (goodIn_of _ (by decide +kernel)) ggX5_pay_X5_adds
set_option maxRecDepth 20000 in
theorem ggX5_pay_X5_has : GoodIn wsX5_pay wsX5_has := goodIn_r _ [30, 1, 31, 32, 33, 34, 35, 36, 37, 38, 39, 40, 41, 42, 43, 44, 45, 46, 47, 48] (by decide +kernel) (by decide +kernel)
set_option maxRecDepth 20000 in
theorem gX5_pay_X5_has : GoodIn wsX5_pay (wsV RX5 56 RX5 yX5_has wsX5_has) := goodIn_app (goodIn_of _ (by decide +kernel)) ggX5_pay_X5_has
theorem dX5_pay_0 : decode cX5_pay 0 = .ok (.aload_n 0, 1) := by decide +kernel
theorem dX5_pay_1 : decode cX5_pay 1 = .ok (.iload_n 1, 1) := by decide +kernel
theorem dX5_pay_2 : decode cX5_pay 2 = .ok (.invokestatic 83, 3) := by decide +kernel
theorem dX5_pay_5 : decode cX5_pay 5 = .ok (.ifCond .ne 7, 3) := by decide +kernel
theorem dX5_pay_8 : decode cX5_pay 8 = .ok (.iconst 1, 1) := by decide +kernel
theorem dX5_pay_9 : decode cX5_pay 9 = .ok (.goto 36, 3) := by decide +kernel
theorem dX5_pay_12 : decode cX5_pay 12 = .ok (.iload_n 2, 1) := by decide +kernel
theorem dX5_pay_13 : decode cX5_pay 13 = .ok (.iconst 1, 1) := by decide +kernel
theorem dX5_pay_14 : decode cX5_pay 14 = .ok (.bipush 99, 2) := by decide +kernel
theorem dX5_pay_16 : decode cX5_pay 16 = .ok (.invokestatic 32, 3) := by decide +kernel
theorem dX5_pay_19 : decode cX5_pay 19 = .ok (.ifCond .ne 7, 3) := by decide +kernel
theorem dX5_pay_22 : decode cX5_pay 22 = .ok (.iconst 2, 1) := by decide +kernel
theorem dX5_pay_23 : decode cX5_pay 23 = .ok (.goto 22, 3) := by decide +kernel
theorem dX5_pay_26 : decode cX5_pay 26 = .ok (.aload_n 0, 1) := by decide +kernel
theorem dX5_pay_27 : decode cX5_pay 27 = .ok (.getfield 7, 3) := by decide +kernel
theorem dX5_pay_30 : decode cX5_pay 30 = .ok (.iconst 4, 1) := by decide +kernel
theorem dX5_pay_31 : decode cX5_pay 31 = .ok (.iaload, 1) := by decide +kernel
theorem dX5_pay_32 : decode cX5_pay 32 = .ok (.iload_n 2, 1) := by decide +kernel
theorem dX5_pay_33 : decode cX5_pay 33 = .ok (.iadd, 1) := by decide +kernel
theorem dX5_pay_34 : decode cX5_pay 34 = .ok (.sipush 9999, 3) := by decide +kernel
theorem dX5_pay_37 : decode cX5_pay 37 = .ok (.if_icmp .le 7, 3) := by decide +kernel
theorem dX5_pay_40 : decode cX5_pay 40 = .ok (.iconst 3, 1) := by decide +kernel
theorem dX5_pay_41 : decode cX5_pay 41 = .ok (.goto 4, 3) := by decide +kernel
theorem dX5_pay_44 : decode cX5_pay 44 = .ok (.iconst 0, 1) := by decide +kernel
theorem dX5_pay_45 : decode cX5_pay 45 = .ok (.invokevirtual 100, 3) := by decide +kernel
theorem dX5_pay_48 : decode cX5_pay 48 = .ok (.ifCond .ne 5, 3) := by decide +kernel
theorem dX5_pay_51 : decode cX5_pay 51 = .ok (.iconst 0, 1) := by decide +kernel
theorem dX5_pay_52 : decode cX5_pay 52 = .ok (.ireturn, 1) := by decide +kernel
theorem dX5_pay_53 : decode cX5_pay 53 = .ok (.aload_n 0, 1) := by decide +kernel
theorem dX5_pay_54 : decode cX5_pay 54 = .ok (.invokevirtual 97, 3) := by decide +kernel
theorem dX5_pay_57 : decode cX5_pay 57 = .ok (.aload_n 0, 1) := by decide +kernel
theorem dX5_pay_58 : decode cX5_pay 58 = .ok (.iload_n 1, 1) := by decide +kernel
theorem dX5_pay_59 : decode cX5_pay 59 = .ok (.iconst 0, 1) := by decide +kernel
theorem dX5_pay_60 : decode cX5_pay 60 = .ok (.iload_n 2, 1) := by decide +kernel
theorem dX5_pay_61 : decode cX5_pay 61 = .ok (.invokevirtual 73, 3) := by decide +kernel
theorem dX5_pay_64 : decode cX5_pay 64 = .ok (.aload_n 0, 1) := by decide +kernel
theorem dX5_pay_65 : decode cX5_pay 65 = .ok (.getfield 7, 3) := by decide +kernel
theorem dX5_pay_68 : decode cX5_pay 68 = .ok (.iconst 4, 1) := by decide +kernel
theorem dX5_pay_69 : decode cX5_pay 69 = .ok (.dup2, 1) := by decide +kernel
theorem dX5_pay_70 : decode cX5_pay 70 = .ok (.iaload, 1) := by decide +kernel
theorem dX5_pay_71 : decode cX5_pay 71 = .ok (.iload_n 2, 1) := by decide +kernel
theorem dX5_pay_72 : decode cX5_pay 72 = .ok (.iadd, 1) := by decide +kernel
theorem dX5_pay_73 : decode cX5_pay 73 = .ok (.iastore, 1) := by decide +kernel
theorem dX5_pay_74 : decode cX5_pay 74 = .ok (.aload_n 0, 1) := by decide +kernel
theorem dX5_pay_75 : decode cX5_pay 75 = .ok (.iload_n 1, 1) := by decide +kernel
theorem dX5_pay_76 : decode cX5_pay 76 = .ok (.iconst 0, 1) := by decide +kernel
theorem dX5_pay_77 : decode cX5_pay 77 = .ok (.invokevirtual 56, 3) := by decide +kernel
theorem dX5_pay_80 : decode cX5_pay 80 = .ok (.ireturn, 1) := by decide +kernel
set_option maxRecDepth 20000 in
theorem ggX5_set_X5_in : GoodIn wsX5_set wsX5_in := goodIn_r _ [4] (by decide +kernel) (by decide +kernel)
set_option maxRecDepth 20000 in
theorem gX5_set_X5_in : GoodIn wsX5_set (va_wsS RX5 32 yX5_in wsX5_in) := goodIn_app (goodIn_of _ (by decide +kernel)) ggX5_set_X5_in
set_option maxRecDepth 20000 in
theorem ggX5_set_X5_holds : GoodIn wsX5_set wsX5_holds := goodIn_r _ [8, 9, 24, 25, 26, 27, 28, 29, 30, 31, 32, 33, 34, 35, 36, 37, 38, 39, 40, 41] (by decide +kernel) (by decide +kernel)
set_option maxRecDepth 20000 in
theorem gX5_set_X5_holds : GoodIn wsX5_set (wsV RX5 100 RX5 yX5_holds wsX5_holds) := goodIn_app (goodIn_of _ (by decide +kernel)) ggX5_set_X5_holds
set_option maxRecDepth 20000 in
theorem ggX5_set_X5_changed : GoodIn wsX5_set wsX5_changed := goodIn_r _ [13, 14, 15, 16, 17, 3, 18, 19, 20, 21, 22, 23, 24, 25, 26, 27, 28, 29, 30, 31, 32, 33, 34, 35, 36, 37, 38, 39, 40, 41] (by decide +kernel) (by decide +kernel)
set_option maxRecDepth 20000 in
theorem gX5_set_X5_changed : GoodIn wsX5_set (wsV RX5 103 RX5 yX5_changed wsX5_changed) := goodIn_app (goodIn_of _ (by decide +kernel)) ggX5_set_X5_changed
theorem dX5_set_0 : decode cX5_set 0 = .ok (.iload_n 1, 1) := by decide +kernel
theorem dX5_set_1 : decode cX5_set 1 = .ok (.iconst 0, 1) := by decide +kernel
theorem dX5_set_2 : decode cX5_set 2 = .ok (.iconst 2, 1) := by decide +kernel
theorem dX5_set_3 : decode cX5_set 3 = .ok (.invokestatic 32, 3) := by decide +kernel
theorem dX5_set_6 : decode cX5_set 6 = .ok (.istore_n 3, 1) := by decide +kernel
theorem dX5_set_7 : decode cX5_set 7 = .ok (.aload_n 0, 1) := by decide +kernel
theorem dX5_set_8 : decode cX5_set 8 = .ok (.iload_n 3, 1) := by decide +kernel
theorem dX5_set_9 : decode cX5_set 9 = .ok (.ifCond .ne 7, 3) := by decide +kernel
theorem dX5_set_12 : decode cX5_set 12 = .ok (.iconst 1, 1) := by decide +kernel
theorem dX5_set_13 : decode cX5_set 13 = .ok (.goto 37, 3) := by decide +kernel
theorem dX5_set_16 : decode cX5_set 16 = .ok (.iload_n 2, 1) := by decide +kernel
theorem dX5_set_17 : decode cX5_set 17 = .ok (.iconst 0, 1) := by decide +kernel
theorem dX5_set_18 : decode cX5_set 18 = .ok (.iload_n 1, 1) := by decide +kernel
theorem dX5_set_19 : decode cX5_set 19 = .ok (.ifCond .ne 8, 3) := by decide +kernel
theorem dX5_set_22 : decode cX5_set 22 = .ok (.bipush 20, 2) := by decide +kernel
theorem dX5_set_24 : decode cX5_set 24 = .ok (.goto 15, 3) := by decide +kernel
theorem dX5_set_27 : decode cX5_set 27 = .ok (.iload_n 1, 1) := by decide +kernel
theorem dX5_set_28 : decode cX5_set 28 = .ok (.iconst 1, 1) := by decide +kernel
theorem dX5_set_29 : decode cX5_set 29 = .ok (.if_icmp .ne 8, 3) := by decide +kernel
theorem dX5_set_32 : decode cX5_set 32 = .ok (.bipush 9, 2) := by decide +kernel
theorem dX5_set_34 : decode cX5_set 34 = .ok (.goto 5, 3) := by decide +kernel
theorem dX5_set_37 : decode cX5_set 37 = .ok (.bipush 50, 2) := by decide +kernel
theorem dX5_set_39 : decode cX5_set 39 = .ok (.invokestatic 32, 3) := by decide +kernel
theorem dX5_set_42 : decode cX5_set 42 = .ok (.ifCond .ne 7, 3) := by decide +kernel
theorem dX5_set_45 : decode cX5_set 45 = .ok (.iconst 2, 1) := by decide +kernel
theorem dX5_set_46 : decode cX5_set 46 = .ok (.goto 4, 3) := by decide +kernel
theorem dX5_set_49 : decode cX5_set 49 = .ok (.iconst 0, 1) := by decide +kernel
theorem dX5_set_50 : decode cX5_set 50 = .ok (.invokevirtual 100, 3) := by decide +kernel
theorem dX5_set_53 : decode cX5_set 53 = .ok (.ifCond .eq 15, 3) := by decide +kernel
theorem dX5_set_56 : decode cX5_set 56 = .ok (.aload_n 0, 1) := by decide +kernel
theorem dX5_set_57 : decode cX5_set 57 = .ok (.bipush 12, 2) := by decide +kernel
theorem dX5_set_59 : decode cX5_set 59 = .ok (.iload_n 1, 1) := by decide +kernel
theorem dX5_set_60 : decode cX5_set 60 = .ok (.iadd, 1) := by decide +kernel
theorem dX5_set_61 : decode cX5_set 61 = .ok (.iload_n 2, 1) := by decide +kernel
theorem dX5_set_62 : decode cX5_set 62 = .ok (.invokevirtual 103, 3) := by decide +kernel
theorem dX5_set_65 : decode cX5_set 65 = .ok (.goto 4, 3) := by decide +kernel
theorem dX5_set_68 : decode cX5_set 68 = .ok (.iconst 0, 1) := by decide +kernel
theorem dX5_set_69 : decode cX5_set 69 = .ok (.ireturn, 1) := by decide +kernel
set_option maxRecDepth 20000 in
theorem ggX5_bid_X5_isOne : GoodIn wsX5_bid wsX5_isOne := goodIn_r _ [4, 5, 6, 3, 7] (by decide +kernel) (by decide +kernel)
set_option maxRecDepth 20000 in
theorem gX5_bid_X5_isOne : GoodIn wsX5_bid (va_wsS RX5 83 yX5_isOne wsX5_isOne) := goodIn_app (goodIn_of _ (by decide +kernel)) ggX5_bid_X5_isOne
set_option maxRecDepth 20000 in
theorem ggX5_bid_X5_isAmount : GoodIn wsX5_bid wsX5_isAmount := goodIn_r _ [10, 5, 6, 3, 7] (by decide +kernel) (by decide +kernel)
set_option maxRecDepth 20000 in
theorem gX5_bid_X5_isAmount : GoodIn wsX5_bid (va_wsS RX5 106 yX5_isAmount wsX5_isAmount) := goodIn_app (goodIn_of _ (by decide +kernel)) ggX5_bid_X5_isAmount
set_option maxRecDepth 20000 in
theorem ggX5_bid_X5_reason : GoodIn wsX5_bid wsX5_reason := goodIn_r _ [14, 15, 16, 17, 18, 3, 19, 20, 21, 22, 23, 24, 25, 26, 27, 28, 29, 30, 31, 50, 51, 52, 53, 54, 55, 56, 57, 58, 59, 60, 61, 62, 63, 64, 65, 66, 67] (by decide +kernel) (by decide +kernel)
set_option maxRecDepth 20000 in
theorem gX5_bid_X5_reason : GoodIn wsX5_bid (wsV RX5 109 RX5 yX5_reason wsX5_reason) := goodIn_app (goodIn_of _ (by decide +kernel)) ggX5_bid_X5_reason
set_option maxRecDepth 20000 in
theorem ggX5_bid_X5_holds : GoodIn wsX5_bid wsX5_holds := goodIn_r _ [35, 36, 50, 51, 52, 53, 54, 55, 56, 57, 58, 59, 60, 61, 62, 63, 64, 65, 66, 67] (by decide +kernel) (by decide +kernel)
set_option maxRecDepth 20000 in
theorem gX5_bid_X5_holds : GoodIn wsX5_bid (wsV RX5 100 RX5 yX5_holds wsX5_holds) := goodIn_app (goodIn_of _ (by decide +kernel)) ggX5_bid_X5_holds
set_option maxRecDepth 20000 in
theorem ggX5_bid_X5_save : GoodIn wsX5_bid wsX5_save := goodIn_r _ [40, 41, 42, 43, 44, 3, 45, 15, 50, 51, 52, 53, 54, 55, 56, 57, 58, 59, 60, 61, 62, 63, 64, 65, 66, 67] (by decide +kernel) (by decide +kernel)
set_option maxRecDepth 20000 in
theorem gX5_bid_X5_save : GoodIn wsX5_bid (wsV RX5 97 RX5 yX5_save wsX5_save) := goodIn_app (goodIn_of _ (by decide +kernel)) ggX5_bid_X5_save
set_option maxRecDepth 20000 in
theorem ggX5_bid_X5_seals : GoodIn wsX5_bid wsX5_seals := goodIn_r _ [49, 15, 20, 21, 22, 3, 23, 50, 51, 52, 53, 54, 55, 56, 57, 58, 59, 60, 61, 62, 63, 64, 65, 66, 67] (by decide +kernel) (by decide +kernel)
set_option maxRecDepth 20000 in
theorem gX5_bid_X5_seals : GoodIn wsX5_bid (wsV RX5 112 RX5 yX5_seals wsX5_seals) := goodIn_app (goodIn_of _ (by decide +kernel)) ggX5_bid_X5_seals
theorem dX5_bid_0 : decode cX5_bid 0 = .ok (.iload_n 1, 1) := by decide +kernel
theorem dX5_bid_1 : decode cX5_bid 1 = .ok (.invokestatic 83, 3) := by decide +kernel
theorem dX5_bid_4 : decode cX5_bid 4 = .ok (.ifCond .eq 14, 3) := by decide +kernel
theorem dX5_bid_7 : decode cX5_bid 7 = .ok (.iload_n 2, 1) := by decide +kernel
theorem dX5_bid_8 : decode cX5_bid 8 = .ok (.invokestatic 83, 3) := by decide +kernel
theorem dX5_bid_11 : decode cX5_bid 11 = .ok (.ifCond .eq 7, 3) := by decide +kernel
theorem dX5_bid_14 : decode cX5_bid 14 = .ok (.iconst 1, 1) := by decide +kernel
theorem dX5_bid_15 : decode cX5_bid 15 = .ok (.goto 4, 3) := by decide +kernel
theorem dX5_bid_18 : decode cX5_bid 18 = .ok (.iconst 0, 1) := by decide +kernel
theorem dX5_bid_19 : decode cX5_bid 19 = .ok (.istore 4, 2) := by decide +kernel
theorem dX5_bid_21 : decode cX5_bid 21 = .ok (.aload_n 0, 1) := by decide +kernel
theorem dX5_bid_22 : decode cX5_bid 22 = .ok (.iload 4, 2) := by decide +kernel
theorem dX5_bid_24 : decode cX5_bid 24 = .ok (.ifCond .ne 7, 3) := by decide +kernel
theorem dX5_bid_27 : decode cX5_bid 27 = .ok (.iconst 1, 1) := by decide +kernel
theorem dX5_bid_28 : decode cX5_bid 28 = .ok (.goto 29, 3) := by decide +kernel
theorem dX5_bid_31 : decode cX5_bid 31 = .ok (.iload_n 3, 1) := by decide +kernel
theorem dX5_bid_32 : decode cX5_bid 32 = .ok (.invokestatic 106, 3) := by decide +kernel
theorem dX5_bid_35 : decode cX5_bid 35 = .ok (.ifCond .ne 7, 3) := by decide +kernel
theorem dX5_bid_38 : decode cX5_bid 38 = .ok (.iconst 2, 1) := by decide +kernel
theorem dX5_bid_39 : decode cX5_bid 39 = .ok (.goto 18, 3) := by decide +kernel
theorem dX5_bid_42 : decode cX5_bid 42 = .ok (.aload_n 0, 1) := by decide +kernel
theorem dX5_bid_43 : decode cX5_bid 43 = .ok (.iload_n 1, 1) := by decide +kernel
theorem dX5_bid_44 : decode cX5_bid 44 = .ok (.iload_n 2, 1) := by decide +kernel
theorem dX5_bid_45 : decode cX5_bid 45 = .ok (.iload_n 3, 1) := by decide +kernel
theorem dX5_bid_46 : decode cX5_bid 46 = .ok (.invokevirtual 109, 3) := by decide +kernel
theorem dX5_bid_49 : decode cX5_bid 49 = .ok (.ifCond .le 7, 3) := by decide +kernel
theorem dX5_bid_52 : decode cX5_bid 52 = .ok (.iconst 3, 1) := by decide +kernel
theorem dX5_bid_53 : decode cX5_bid 53 = .ok (.goto 4, 3) := by decide +kernel
theorem dX5_bid_56 : decode cX5_bid 56 = .ok (.iconst 0, 1) := by decide +kernel
theorem dX5_bid_57 : decode cX5_bid 57 = .ok (.invokevirtual 100, 3) := by decide +kernel
theorem dX5_bid_60 : decode cX5_bid 60 = .ok (.ifCond .ne 5, 3) := by decide +kernel
theorem dX5_bid_63 : decode cX5_bid 63 = .ok (.iconst 0, 1) := by decide +kernel
theorem dX5_bid_64 : decode cX5_bid 64 = .ok (.ireturn, 1) := by decide +kernel
theorem dX5_bid_65 : decode cX5_bid 65 = .ok (.aload_n 0, 1) := by decide +kernel
theorem dX5_bid_66 : decode cX5_bid 66 = .ok (.invokevirtual 97, 3) := by decide +kernel
theorem dX5_bid_69 : decode cX5_bid 69 = .ok (.aload_n 0, 1) := by decide +kernel
theorem dX5_bid_70 : decode cX5_bid 70 = .ok (.iload_n 1, 1) := by decide +kernel
theorem dX5_bid_71 : decode cX5_bid 71 = .ok (.iload_n 2, 1) := by decide +kernel
theorem dX5_bid_72 : decode cX5_bid 72 = .ok (.iload_n 3, 1) := by decide +kernel
theorem dX5_bid_73 : decode cX5_bid 73 = .ok (.invokevirtual 112, 3) := by decide +kernel
theorem dX5_bid_76 : decode cX5_bid 76 = .ok (.ireturn, 1) := by decide +kernel
set_option maxRecDepth 20000 in
theorem ggX5_withdraw_X5_isOne : GoodIn wsX5_withdraw wsX5_isOne := goodIn_r _ [4, 5, 6, 3, 7] (by decide +kernel) (by decide +kernel)
set_option maxRecDepth 20000 in
theorem gX5_withdraw_X5_isOne : GoodIn wsX5_withdraw (va_wsS RX5 83 yX5_isOne wsX5_isOne) := goodIn_app (goodIn_of _ (by decide +kernel)) ggX5_withdraw_X5_isOne
set_option maxRecDepth 20000 in
theorem ggX5_withdraw_X5_whyKept : GoodIn wsX5_withdraw wsX5_whyKept := goodIn_r _ [11, 12, 13, 14, 15, 3, 16, 17, 18, 19, 20, 21, 22, 23, 24, 25, 26, 27, 28, 51, 52, 53, 54, 55, 56, 57, 58, 59, 60, 61, 62, 63, 64, 65, 66, 67, 68] (by decide +kernel) (by decide +kernel)
set_option maxRecDepth 20000 in
theorem gX5_withdraw_X5_whyKept : GoodIn wsX5_withdraw (wsV RX5 115 RX5 yX5_whyKept wsX5_whyKept) := goodIn_app (goodIn_of _ (by decide +kernel)) ggX5_withdraw_X5_whyKept
set_option maxRecDepth 20000 in
theorem ggX5_withdraw_X5_holds : GoodIn wsX5_withdraw wsX5_holds := goodIn_r _ [32, 33, 51, 52, 53, 54, 55, 56, 57, 58, 59, 60, 61, 62, 63, 64, 65, 66, 67, 68] (by decide +kernel) (by decide +kernel)
set_option maxRecDepth 20000 in
theorem gX5_withdraw_X5_holds : GoodIn wsX5_withdraw (wsV RX5 100 RX5 yX5_holds wsX5_holds) := goodIn_app (goodIn_of _ (by decide +kernel)) ggX5_withdraw_X5_holds
set_option maxRecDepth 20000 in
theorem ggX5_withdraw_X5_save : GoodIn wsX5_withdraw wsX5_save := goodIn_r _ [37, 38, 39, 40, 41, 3, 42, 12, 51, 52, 53, 54, 55, 56, 57, 58, 59, 60, 61, 62, 63, 64, 65, 66, 67, 68] (by decide +kernel) (by decide +kernel)
set_option maxRecDepth 20000 in
theorem gX5_withdraw_X5_save : GoodIn wsX5_withdraw (wsV RX5 97 RX5 yX5_save wsX5_save) := goodIn_app (goodIn_of _ (by decide +kernel)) ggX5_withdraw_X5_save
set_option maxRecDepth 20000 in
theorem ggX5_withdraw_X5_withdraws : GoodIn wsX5_withdraw wsX5_withdraws := goodIn_r _ [46, 12, 25, 26, 27, 3, 28, 17, 18, 19, 20, 47, 48, 49, 50, 51, 52, 53, 54, 55, 56, 57, 58, 59, 60, 61, 62, 63, 64, 65, 66, 67, 68] (by decide +kernel) (by decide +kernel)
set_option maxRecDepth 20000 in
theorem gX5_withdraw_X5_withdraws : GoodIn wsX5_withdraw (wsV RX5 118 RX5 yX5_withdraws wsX5_withdraws) := goodIn_app (goodIn_of _ (by decide +kernel)) ggX5_withdraw_X5_withdraws
theorem dX5_withdraw_0 : decode cX5_withdraw 0 = .ok (.iload_n 1, 1) := by decide +kernel
theorem dX5_withdraw_1 : decode cX5_withdraw 1 = .ok (.invokestatic 83, 3) := by decide +kernel
theorem dX5_withdraw_4 : decode cX5_withdraw 4 = .ok (.ifCond .eq 14, 3) := by decide +kernel
theorem dX5_withdraw_7 : decode cX5_withdraw 7 = .ok (.iload_n 2, 1) := by decide +kernel
theorem dX5_withdraw_8 : decode cX5_withdraw 8 = .ok (.invokestatic 83, 3) := by decide +kernel
theorem dX5_withdraw_11 : decode cX5_withdraw 11 = .ok (.ifCond .eq 7, 3) := by decide +kernel
theorem dX5_withdraw_14 : decode cX5_withdraw 14 = .ok (.iconst 1, 1) := by decide +kernel
theorem dX5_withdraw_15 : decode cX5_withdraw 15 = .ok (.goto 4, 3) := by decide +kernel
theorem dX5_withdraw_18 : decode cX5_withdraw 18 = .ok (.iconst 0, 1) := by decide +kernel
theorem dX5_withdraw_19 : decode cX5_withdraw 19 = .ok (.istore_n 3, 1) := by decide +kernel
theorem dX5_withdraw_20 : decode cX5_withdraw 20 = .ok (.aload_n 0, 1) := by decide +kernel
theorem dX5_withdraw_21 : decode cX5_withdraw 21 = .ok (.iload_n 3, 1) := by decide +kernel
theorem dX5_withdraw_22 : decode cX5_withdraw 22 = .ok (.ifCond .ne 7, 3) := by decide +kernel
theorem dX5_withdraw_25 : decode cX5_withdraw 25 = .ok (.iconst 1, 1) := by decide +kernel
theorem dX5_withdraw_26 : decode cX5_withdraw 26 = .ok (.goto 17, 3) := by decide +kernel
theorem dX5_withdraw_29 : decode cX5_withdraw 29 = .ok (.aload_n 0, 1) := by decide +kernel
theorem dX5_withdraw_30 : decode cX5_withdraw 30 = .ok (.iload_n 1, 1) := by decide +kernel
theorem dX5_withdraw_31 : decode cX5_withdraw 31 = .ok (.iload_n 2, 1) := by decide +kernel
theorem dX5_withdraw_32 : decode cX5_withdraw 32 = .ok (.invokevirtual 115, 3) := by decide +kernel
theorem dX5_withdraw_35 : decode cX5_withdraw 35 = .ok (.ifCond .le 7, 3) := by decide +kernel
theorem dX5_withdraw_38 : decode cX5_withdraw 38 = .ok (.iconst 2, 1) := by decide +kernel
theorem dX5_withdraw_39 : decode cX5_withdraw 39 = .ok (.goto 4, 3) := by decide +kernel
theorem dX5_withdraw_42 : decode cX5_withdraw 42 = .ok (.iconst 0, 1) := by decide +kernel
theorem dX5_withdraw_43 : decode cX5_withdraw 43 = .ok (.invokevirtual 100, 3) := by decide +kernel
theorem dX5_withdraw_46 : decode cX5_withdraw 46 = .ok (.ifCond .ne 5, 3) := by decide +kernel
theorem dX5_withdraw_49 : decode cX5_withdraw 49 = .ok (.iconst 0, 1) := by decide +kernel
theorem dX5_withdraw_50 : decode cX5_withdraw 50 = .ok (.ireturn, 1) := by decide +kernel
theorem dX5_withdraw_51 : decode cX5_withdraw 51 = .ok (.aload_n 0, 1) := by decide +kernel
theorem dX5_withdraw_52 : decode cX5_withdraw 52 = .ok (.invokevirtual 97, 3) := by decide +kernel
theorem dX5_withdraw_55 : decode cX5_withdraw 55 = .ok (.aload_n 0, 1) := by decide +kernel
theorem dX5_withdraw_56 : decode cX5_withdraw 56 = .ok (.iload_n 1, 1) := by decide +kernel
theorem dX5_withdraw_57 : decode cX5_withdraw 57 = .ok (.iload_n 2, 1) := by decide +kernel
theorem dX5_withdraw_58 : decode cX5_withdraw 58 = .ok (.invokevirtual 118, 3) := by decide +kernel
theorem dX5_withdraw_61 : decode cX5_withdraw 61 = .ok (.ireturn, 1) := by decide +kernel
set_option maxRecDepth 20000 in
theorem ggX5_pause_X5_in : GoodIn wsX5_pause wsX5_in := goodIn_r _ [4] (by decide +kernel) (by decide +kernel)
set_option maxRecDepth 20000 in
theorem gX5_pause_X5_in : GoodIn wsX5_pause (va_wsS RX5 32 yX5_in wsX5_in) := goodIn_app (goodIn_of _ (by decide +kernel)) ggX5_pause_X5_in
set_option maxRecDepth 20000 in
theorem ggX5_pause_X5_holds : GoodIn wsX5_pause wsX5_holds := goodIn_r _ [8, 9, 24, 25, 26, 27, 28, 29, 30, 31, 32, 33, 34, 35, 36, 37, 38, 39, 40, 41] (by decide +kernel) (by decide +kernel)
set_option maxRecDepth 20000 in
theorem gX5_pause_X5_holds : GoodIn wsX5_pause (wsV RX5 100 RX5 yX5_holds wsX5_holds) := goodIn_app (goodIn_of _ (by decide +kernel)) ggX5_pause_X5_holds
set_option maxRecDepth 20000 in
theorem ggX5_pause_X5_save : GoodIn wsX5_pause wsX5_save := goodIn_r _ [13, 14, 15, 16, 17, 3, 18, 19, 24, 25, 26, 27, 28, 29, 30, 31, 32, 33, 34, 35, 36, 37, 38, 39, 40, 41] (by decide +kernel) (by decide +kernel)
set_option maxRecDepth 20000 in
theorem gX5_pause_X5_save : GoodIn wsX5_pause (wsV RX5 97 RX5 yX5_save wsX5_save) := goodIn_app (goodIn_of _ (by decide +kernel)) ggX5_pause_X5_save
set_option maxRecDepth 20000 in
theorem ggX5_pause_X5_pauses : GoodIn wsX5_pause wsX5_pauses := goodIn_r _ [23, 19, 24, 25, 26, 27, 28, 29, 30, 31, 32, 33, 34, 35, 36, 37, 38, 39, 40, 41] (by decide +kernel) (by decide +kernel)
set_option maxRecDepth 20000 in
theorem gX5_pause_X5_pauses : GoodIn wsX5_pause (wsV RX5 121 RX5 yX5_pauses wsX5_pauses) := goodIn_app (goodIn_of _ (by decide +kernel)) ggX5_pause_X5_pauses
theorem dX5_pause_0 : decode cX5_pause 0 = .ok (.aload_n 0, 1) := by decide +kernel
theorem dX5_pause_1 : decode cX5_pause 1 = .ok (.iload_n 1, 1) := by decide +kernel
theorem dX5_pause_2 : decode cX5_pause 2 = .ok (.iconst 1, 1) := by decide +kernel
theorem dX5_pause_3 : decode cX5_pause 3 = .ok (.bipush 23, 2) := by decide +kernel
theorem dX5_pause_5 : decode cX5_pause 5 = .ok (.invokestatic 32, 3) := by decide +kernel
theorem dX5_pause_8 : decode cX5_pause 8 = .ok (.ifCond .eq 7, 3) := by decide +kernel
theorem dX5_pause_11 : decode cX5_pause 11 = .ok (.iconst 0, 1) := by decide +kernel
theorem dX5_pause_12 : decode cX5_pause 12 = .ok (.goto 4, 3) := by decide +kernel
theorem dX5_pause_15 : decode cX5_pause 15 = .ok (.iconst 1, 1) := by decide +kernel
theorem dX5_pause_16 : decode cX5_pause 16 = .ok (.invokevirtual 100, 3) := by decide +kernel
theorem dX5_pause_19 : decode cX5_pause 19 = .ok (.ifCond .ne 5, 3) := by decide +kernel
theorem dX5_pause_22 : decode cX5_pause 22 = .ok (.iconst 0, 1) := by decide +kernel
theorem dX5_pause_23 : decode cX5_pause 23 = .ok (.ireturn, 1) := by decide +kernel
theorem dX5_pause_24 : decode cX5_pause 24 = .ok (.aload_n 0, 1) := by decide +kernel
theorem dX5_pause_25 : decode cX5_pause 25 = .ok (.invokevirtual 97, 3) := by decide +kernel
theorem dX5_pause_28 : decode cX5_pause 28 = .ok (.aload_n 0, 1) := by decide +kernel
theorem dX5_pause_29 : decode cX5_pause 29 = .ok (.iload_n 1, 1) := by decide +kernel
theorem dX5_pause_30 : decode cX5_pause 30 = .ok (.invokevirtual 121, 3) := by decide +kernel
theorem dX5_pause_33 : decode cX5_pause 33 = .ok (.ireturn, 1) := by decide +kernel
set_option maxRecDepth 20000 in
theorem ggX5_open_X5_holds : GoodIn wsX5_open wsX5_holds := goodIn_r _ [6, 7, 71, 72, 73, 74, 75, 76, 77, 78, 79, 80, 81, 82, 83, 84, 85, 86, 87, 88] (by decide +kernel) (by decide +kernel)
set_option maxRecDepth 20000 in
theorem gX5_open_X5_holds : GoodIn wsX5_open (wsV RX5 100 RX5 yX5_holds wsX5_holds) := goodIn_app (goodIn_of _ (by decide +kernel)) ggX5_open_X5_holds
set_option maxRecDepth 20000 in
theorem ggX5_open_X5_save : GoodIn wsX5_open wsX5_save := goodIn_r _ [11, 12, 13, 14, 15, 5, 16, 1, 71, 72, 73, 74, 75, 76, 77, 78, 79, 80, 81, 82, 83, 84, 85, 86, 87, 88] (by decide +kernel) (by decide +kernel)
set_option maxRecDepth 20000 in
theorem gX5_open_X5_save : GoodIn wsX5_open (wsV RX5 97 RX5 yX5_save wsX5_save) := goodIn_app (goodIn_of _ (by decide +kernel)) ggX5_open_X5_save
set_option maxRecDepth 20000 in
theorem ggX5_open_X5_opens : GoodIn wsX5_open wsX5_opens := goodIn_r _ [20, 21, 22, 1, 23, 24, 25, 5, 26, 27, 28, 29, 30, 31, 32, 33, 34, 35, 36, 37, 38, 39, 40, 41, 42, 43, 44, 45, 46, 47, 48, 49, 50, 51, 52, 53, 54, 55, 56, 57, 58, 59, 60, 61, 62, 63, 64, 65, 66, 67, 68, 69, 70, 71, 72, 73, 74, 75, 76, 77, 78, 79, 80, 81, 82, 83, 84, 85, 86, 87, 88] (by decide +kernel) (by decide +kernel)
set_option maxRecDepth 20000 in
theorem gX5_open_X5_opens : GoodIn wsX5_open (wsV RX5 124 RX5 yX5_opens wsX5_opens) := goodIn_app (goodIn_of _ (by decide +kernel)) ggX5_open_X5_opens
theorem dX5_open_0 : decode cX5_open 0 = .ok (.aload_n 0, 1) := by decide +kernel
theorem dX5_open_1 : decode cX5_open 1 = .ok (.aload_n 0, 1) := by decide +kernel
theorem dX5_open_2 : decode cX5_open 2 = .ok (.getfield 7, 3) := by decide +kernel
theorem dX5_open_5 : decode cX5_open 5 = .ok (.iconst 2, 1) := by decide +kernel
theorem dX5_open_6 : decode cX5_open 6 = .ok (.iaload, 1) := by decide +kernel
theorem dX5_open_7 : decode cX5_open 7 = .ok (.iconst 1, 1) := by decide +kernel
theorem dX5_open_8 : decode cX5_open 8 = .ok (.if_icmp .ne 7, 3) := by decide +kernel
theorem dX5_open_11 : decode cX5_open 11 = .ok (.iconst 1, 1) := by decide +kernel
theorem dX5_open_12 : decode cX5_open 12 = .ok (.goto 4, 3) := by decide +kernel
theorem dX5_open_15 : decode cX5_open 15 = .ok (.iconst 0, 1) := by decide +kernel
theorem dX5_open_16 : decode cX5_open 16 = .ok (.invokevirtual 100, 3) := by decide +kernel
theorem dX5_open_19 : decode cX5_open 19 = .ok (.ifCond .ne 5, 3) := by decide +kernel
theorem dX5_open_22 : decode cX5_open 22 = .ok (.iconst 0, 1) := by decide +kernel
theorem dX5_open_23 : decode cX5_open 23 = .ok (.ireturn, 1) := by decide +kernel
theorem dX5_open_24 : decode cX5_open 24 = .ok (.aload_n 0, 1) := by decide +kernel
theorem dX5_open_25 : decode cX5_open 25 = .ok (.invokevirtual 97, 3) := by decide +kernel
theorem dX5_open_28 : decode cX5_open 28 = .ok (.aload_n 0, 1) := by decide +kernel
theorem dX5_open_29 : decode cX5_open 29 = .ok (.invokevirtual 124, 3) := by decide +kernel
theorem dX5_open_32 : decode cX5_open 32 = .ok (.ireturn, 1) := by decide +kernel
set_option maxRecDepth 20000 in
theorem ggX5_fish_X5_isOne : GoodIn wsX5_fish wsX5_isOne := goodIn_r _ [4, 5, 6, 3, 7] (by decide +kernel) (by decide +kernel)
set_option maxRecDepth 20000 in
theorem gX5_fish_X5_isOne : GoodIn wsX5_fish (va_wsS RX5 83 yX5_isOne wsX5_isOne) := goodIn_app (goodIn_of _ (by decide +kernel)) ggX5_fish_X5_isOne
set_option maxRecDepth 20000 in
theorem ggX5_fish_X5_canFish : GoodIn wsX5_fish wsX5_canFish := goodIn_r _ [11, 12, 13, 14, 15, 3, 16, 47, 48, 49, 50, 51, 52, 53, 54, 55, 56, 57, 58, 59, 60, 61, 62, 63, 64] (by decide +kernel) (by decide +kernel)
set_option maxRecDepth 20000 in
theorem gX5_fish_X5_canFish : GoodIn wsX5_fish (wsV RX5 128 RX5 yX5_canFish wsX5_canFish) := goodIn_app (goodIn_of _ (by decide +kernel)) ggX5_fish_X5_canFish
set_option maxRecDepth 20000 in
theorem ggX5_fish_X5_holds : GoodIn wsX5_fish wsX5_holds := goodIn_r _ [20, 21, 47, 48, 49, 50, 51, 52, 53, 54, 55, 56, 57, 58, 59, 60, 61, 62, 63, 64] (by decide +kernel) (by decide +kernel)
set_option maxRecDepth 20000 in
theorem gX5_fish_X5_holds : GoodIn wsX5_fish (wsV RX5 100 RX5 yX5_holds wsX5_holds) := goodIn_app (goodIn_of _ (by decide +kernel)) ggX5_fish_X5_holds
set_option maxRecDepth 20000 in
theorem ggX5_fish_X5_save : GoodIn wsX5_fish wsX5_save := goodIn_r _ [25, 26, 27, 28, 29, 3, 30, 12, 47, 48, 49, 50, 51, 52, 53, 54, 55, 56, 57, 58, 59, 60, 61, 62, 63, 64] (by decide +kernel) (by decide +kernel)
set_option maxRecDepth 20000 in
theorem gX5_fish_X5_save : GoodIn wsX5_fish (wsV RX5 97 RX5 yX5_save wsX5_save) := goodIn_app (goodIn_of _ (by decide +kernel)) ggX5_fish_X5_save
set_option maxRecDepth 20000 in
theorem ggX5_fish_X5_fishes : GoodIn wsX5_fish wsX5_fishes := goodIn_r _ [34, 12, 13, 14, 15, 3, 16, 35, 36, 37, 38, 39, 40, 41, 42, 43, 44, 45, 46, 1, 2, 4, 5, 6, 7, 47, 48, 49, 50, 51, 52, 53, 54, 55, 56, 57, 58, 59, 60, 61, 62, 63, 64] (by decide +kernel) (by decide +kernel)
set_option maxRecDepth 20000 in
theorem gX5_fish_X5_fishes : GoodIn wsX5_fish (wsV RX5 131 RX5 yX5_fishes wsX5_fishes) := goodIn_app (goodIn_of _ (by decide +kernel)) ggX5_fish_X5_fishes
theorem dX5_fish_0 : decode cX5_fish 0 = .ok (.iload_n 1, 1) := by decide +kernel
theorem dX5_fish_1 : decode cX5_fish 1 = .ok (.invokestatic 83, 3) := by decide +kernel
theorem dX5_fish_4 : decode cX5_fish 4 = .ok (.istore_n 2, 1) := by decide +kernel
theorem dX5_fish_5 : decode cX5_fish 5 = .ok (.aload_n 0, 1) := by decide +kernel
theorem dX5_fish_6 : decode cX5_fish 6 = .ok (.iload_n 2, 1) := by decide +kernel
theorem dX5_fish_7 : decode cX5_fish 7 = .ok (.ifCond .ne 7, 3) := by decide +kernel
theorem dX5_fish_10 : decode cX5_fish 10 = .ok (.iconst 1, 1) := by decide +kernel
theorem dX5_fish_11 : decode cX5_fish 11 = .ok (.goto 16, 3) := by decide +kernel
theorem dX5_fish_14 : decode cX5_fish 14 = .ok (.aload_n 0, 1) := by decide +kernel
theorem dX5_fish_15 : decode cX5_fish 15 = .ok (.iload_n 1, 1) := by decide +kernel
theorem dX5_fish_16 : decode cX5_fish 16 = .ok (.invokevirtual 128, 3) := by decide +kernel
theorem dX5_fish_19 : decode cX5_fish 19 = .ok (.ifCond .ne 7, 3) := by decide +kernel
theorem dX5_fish_22 : decode cX5_fish 22 = .ok (.iconst 2, 1) := by decide +kernel
theorem dX5_fish_23 : decode cX5_fish 23 = .ok (.goto 4, 3) := by decide +kernel
theorem dX5_fish_26 : decode cX5_fish 26 = .ok (.iconst 0, 1) := by decide +kernel
theorem dX5_fish_27 : decode cX5_fish 27 = .ok (.invokevirtual 100, 3) := by decide +kernel
theorem dX5_fish_30 : decode cX5_fish 30 = .ok (.ifCond .ne 5, 3) := by decide +kernel
theorem dX5_fish_33 : decode cX5_fish 33 = .ok (.iconst 0, 1) := by decide +kernel
theorem dX5_fish_34 : decode cX5_fish 34 = .ok (.ireturn, 1) := by decide +kernel
theorem dX5_fish_35 : decode cX5_fish 35 = .ok (.aload_n 0, 1) := by decide +kernel
theorem dX5_fish_36 : decode cX5_fish 36 = .ok (.invokevirtual 97, 3) := by decide +kernel
theorem dX5_fish_39 : decode cX5_fish 39 = .ok (.aload_n 0, 1) := by decide +kernel
theorem dX5_fish_40 : decode cX5_fish 40 = .ok (.iload_n 1, 1) := by decide +kernel
theorem dX5_fish_41 : decode cX5_fish 41 = .ok (.invokevirtual 131, 3) := by decide +kernel
theorem dX5_fish_44 : decode cX5_fish 44 = .ok (.ireturn, 1) := by decide +kernel
set_option maxRecDepth 20000 in
theorem ggX5_nextDay_X5_save : GoodIn wsX5_nextDay wsX5_save := goodIn_r _ [6, 7, 8, 9, 10, 5, 11, 12, 25, 26, 27, 28, 29, 30, 31, 32, 33, 34, 35, 36, 37, 38, 39, 40, 41, 42] (by decide +kernel) (by decide +kernel)
set_option maxRecDepth 20000 in
theorem gX5_nextDay_X5_save : GoodIn wsX5_nextDay (wsV RX5 97 RX5 yX5_save wsX5_save) := goodIn_app (goodIn_of _ (by decide +kernel)) ggX5_nextDay_X5_save
set_option maxRecDepth 20000 in
theorem ggX5_nextDay_X5_dawns : GoodIn wsX5_nextDay wsX5_dawns := goodIn_r _ [16, 12, 17, 18, 19, 5, 20, 21, 22, 23, 24, 25, 26, 27, 28, 29, 30, 31, 32, 33, 34, 35, 36, 37, 38, 39, 40, 41, 42] (by decide +kernel) (by decide +kernel)
set_option maxRecDepth 20000 in
theorem gX5_nextDay_X5_dawns : GoodIn wsX5_nextDay (wsV RX5 134 RX5 yX5_dawns wsX5_dawns) := goodIn_app (goodIn_of _ (by decide +kernel)) ggX5_nextDay_X5_dawns
theorem dX5_nextDay_0 : decode cX5_nextDay 0 = .ok (.aload_n 0, 1) := by decide +kernel
theorem dX5_nextDay_1 : decode cX5_nextDay 1 = .ok (.iconst 0, 1) := by decide +kernel
theorem dX5_nextDay_2 : decode cX5_nextDay 2 = .ok (.putfield 29, 3) := by decide +kernel
theorem dX5_nextDay_5 : decode cX5_nextDay 5 = .ok (.aload_n 0, 1) := by decide +kernel
theorem dX5_nextDay_6 : decode cX5_nextDay 6 = .ok (.invokevirtual 97, 3) := by decide +kernel
theorem dX5_nextDay_9 : decode cX5_nextDay 9 = .ok (.aload_n 0, 1) := by decide +kernel
theorem dX5_nextDay_10 : decode cX5_nextDay 10 = .ok (.invokevirtual 134, 3) := by decide +kernel
theorem dX5_nextDay_13 : decode cX5_nextDay 13 = .ok (.ireturn, 1) := by decide +kernel
set_option maxRecDepth 20000 in
theorem ggX5_append_X5_in : GoodIn wsX5_append wsX5_in := goodIn_r _ [6] (by decide +kernel) (by decide +kernel)
set_option maxRecDepth 20000 in
theorem gX5_append_X5_in : GoodIn wsX5_append (va_wsS RX5 32 yX5_in wsX5_in) := goodIn_app (goodIn_of _ (by decide +kernel)) ggX5_append_X5_in
set_option maxRecDepth 20000 in
theorem ggX5_append_X5_holds : GoodIn wsX5_append wsX5_holds := goodIn_r _ [10, 11, 12, 13, 14, 15, 16, 17, 18, 19, 20, 21, 22, 23, 24, 25, 26, 27, 28, 29] (by decide +kernel) (by decide +kernel)
set_option maxRecDepth 20000 in
theorem gX5_append_X5_holds : GoodIn wsX5_append (wsV RX5 100 RX5 yX5_holds wsX5_holds) := goodIn_app (goodIn_of _ (by decide +kernel)) ggX5_append_X5_holds
theorem dX5_append_0 : decode cX5_append 0 = .ok (.aload_n 0, 1) := by decide +kernel
theorem dX5_append_1 : decode cX5_append 1 = .ok (.iload_n 1, 1) := by decide +kernel
theorem dX5_append_2 : decode cX5_append 2 = .ok (.bipush 33, 2) := by decide +kernel
theorem dX5_append_4 : decode cX5_append 4 = .ok (.bipush 126, 2) := by decide +kernel
theorem dX5_append_6 : decode cX5_append 6 = .ok (.invokestatic 32, 3) := by decide +kernel
theorem dX5_append_9 : decode cX5_append 9 = .ok (.ifCond .ne 7, 3) := by decide +kernel
theorem dX5_append_12 : decode cX5_append 12 = .ok (.iconst 1, 1) := by decide +kernel
theorem dX5_append_13 : decode cX5_append 13 = .ok (.goto 17, 3) := by decide +kernel
theorem dX5_append_16 : decode cX5_append 16 = .ok (.aload_n 0, 1) := by decide +kernel
theorem dX5_append_17 : decode cX5_append 17 = .ok (.getfield 137, 3) := by decide +kernel
theorem dX5_append_20 : decode cX5_append 20 = .ok (.bipush 60, 2) := by decide +kernel
theorem dX5_append_22 : decode cX5_append 22 = .ok (.if_icmp .ne 7, 3) := by decide +kernel
theorem dX5_append_25 : decode cX5_append 25 = .ok (.iconst 2, 1) := by decide +kernel
theorem dX5_append_26 : decode cX5_append 26 = .ok (.goto 4, 3) := by decide +kernel
theorem dX5_append_29 : decode cX5_append 29 = .ok (.iconst 0, 1) := by decide +kernel
theorem dX5_append_30 : decode cX5_append 30 = .ok (.invokevirtual 100, 3) := by decide +kernel
theorem dX5_append_33 : decode cX5_append 33 = .ok (.ifCond .ne 5, 3) := by decide +kernel
theorem dX5_append_36 : decode cX5_append 36 = .ok (.iconst 0, 1) := by decide +kernel
theorem dX5_append_37 : decode cX5_append 37 = .ok (.ireturn, 1) := by decide +kernel
theorem dX5_append_38 : decode cX5_append 38 = .ok (.aload_n 0, 1) := by decide +kernel
theorem dX5_append_39 : decode cX5_append 39 = .ok (.getfield 13, 3) := by decide +kernel
theorem dX5_append_42 : decode cX5_append 42 = .ok (.aload_n 0, 1) := by decide +kernel
theorem dX5_append_43 : decode cX5_append 43 = .ok (.getfield 137, 3) := by decide +kernel
theorem dX5_append_46 : decode cX5_append 46 = .ok (.iload_n 1, 1) := by decide +kernel
theorem dX5_append_47 : decode cX5_append 47 = .ok (.iastore, 1) := by decide +kernel
theorem dX5_append_48 : decode cX5_append 48 = .ok (.aload_n 0, 1) := by decide +kernel
theorem dX5_append_49 : decode cX5_append 49 = .ok (.dup, 1) := by decide +kernel
theorem dX5_append_50 : decode cX5_append 50 = .ok (.getfield 137, 3) := by decide +kernel
theorem dX5_append_53 : decode cX5_append 53 = .ok (.iconst 1, 1) := by decide +kernel
theorem dX5_append_54 : decode cX5_append 54 = .ok (.iadd, 1) := by decide +kernel
theorem dX5_append_55 : decode cX5_append 55 = .ok (.putfield 137, 3) := by decide +kernel
theorem dX5_append_58 : decode cX5_append 58 = .ok (.aload_n 0, 1) := by decide +kernel
theorem dX5_append_59 : decode cX5_append 59 = .ok (.getfield 137, 3) := by decide +kernel
theorem dX5_append_62 : decode cX5_append 62 = .ok (.ireturn, 1) := by decide +kernel
theorem dX5_clearBuffer_0 : decode cX5_clearBuffer 0 = .ok (.aload_n 0, 1) := by decide +kernel
theorem dX5_clearBuffer_1 : decode cX5_clearBuffer 1 = .ok (.iconst 0, 1) := by decide +kernel
theorem dX5_clearBuffer_2 : decode cX5_clearBuffer 2 = .ok (.putfield 29, 3) := by decide +kernel
theorem dX5_clearBuffer_5 : decode cX5_clearBuffer 5 = .ok (.aload_n 0, 1) := by decide +kernel
theorem dX5_clearBuffer_6 : decode cX5_clearBuffer 6 = .ok (.getfield 137, 3) := by decide +kernel
theorem dX5_clearBuffer_9 : decode cX5_clearBuffer 9 = .ok (.istore_n 1, 1) := by decide +kernel
theorem dX5_clearBuffer_10 : decode cX5_clearBuffer 10 = .ok (.aload_n 0, 1) := by decide +kernel
theorem dX5_clearBuffer_11 : decode cX5_clearBuffer 11 = .ok (.iconst 0, 1) := by decide +kernel
theorem dX5_clearBuffer_12 : decode cX5_clearBuffer 12 = .ok (.putfield 137, 3) := by decide +kernel
theorem dX5_clearBuffer_15 : decode cX5_clearBuffer 15 = .ok (.iload_n 1, 1) := by decide +kernel
theorem dX5_clearBuffer_16 : decode cX5_clearBuffer 16 = .ok (.ireturn, 1) := by decide +kernel
theorem dX5_sign_0 : decode cX5_sign 0 = .ok (.aload_n 0, 1) := by decide +kernel
theorem dX5_sign_1 : decode cX5_sign 1 = .ok (.getfield 140, 3) := by decide +kernel
theorem dX5_sign_4 : decode cX5_sign 4 = .ok (.aload_n 0, 1) := by decide +kernel
theorem dX5_sign_5 : decode cX5_sign 5 = .ok (.getfield 137, 3) := by decide +kernel
theorem dX5_sign_8 : decode cX5_sign 8 = .ok (.if_icmp .ge 15, 3) := by decide +kernel
theorem dX5_sign_11 : decode cX5_sign 11 = .ok (.aload_n 0, 1) := by decide +kernel
theorem dX5_sign_12 : decode cX5_sign 12 = .ok (.getfield 13, 3) := by decide +kernel
theorem dX5_sign_15 : decode cX5_sign 15 = .ok (.aload_n 0, 1) := by decide +kernel
theorem dX5_sign_16 : decode cX5_sign 16 = .ok (.getfield 140, 3) := by decide +kernel
theorem dX5_sign_19 : decode cX5_sign 19 = .ok (.iaload, 1) := by decide +kernel
theorem dX5_sign_20 : decode cX5_sign 20 = .ok (.goto 4, 3) := by decide +kernel
theorem dX5_sign_23 : decode cX5_sign 23 = .ok (.iconst 0, 1) := by decide +kernel
theorem dX5_sign_24 : decode cX5_sign 24 = .ok (.ireturn, 1) := by decide +kernel
set_option maxRecDepth 20000 in
theorem ggX5_takes_X5_sign : GoodIn wsX5_takes wsX5_sign := goodIn_r _ [6, 1, 7, 8, 9, 10, 11, 12, 13, 14, 15, 16, 17, 18, 19, 20, 21, 22, 23, 24, 25, 26] (by decide +kernel) (by decide +kernel)
set_option maxRecDepth 20000 in
theorem gX5_takes_X5_sign : GoodIn wsX5_takes (wsV RX5 143 RX5 yX5_sign wsX5_sign) := goodIn_app (goodIn_of _ (by decide +kernel)) ggX5_takes_X5_sign
theorem dX5_takes_0 : decode cX5_takes 0 = .ok (.aload_n 0, 1) := by decide +kernel
theorem dX5_takes_1 : decode cX5_takes 1 = .ok (.invokevirtual 143, 3) := by decide +kernel
theorem dX5_takes_4 : decode cX5_takes 4 = .ok (.iload_n 1, 1) := by decide +kernel
theorem dX5_takes_5 : decode cX5_takes 5 = .ok (.if_icmp .ne 7, 3) := by decide +kernel
theorem dX5_takes_8 : decode cX5_takes 8 = .ok (.iconst 1, 1) := by decide +kernel
theorem dX5_takes_9 : decode cX5_takes 9 = .ok (.goto 4, 3) := by decide +kernel
theorem dX5_takes_12 : decode cX5_takes 12 = .ok (.iconst 0, 1) := by decide +kernel
theorem dX5_takes_13 : decode cX5_takes 13 = .ok (.istore_n 2, 1) := by decide +kernel
theorem dX5_takes_14 : decode cX5_takes 14 = .ok (.aload_n 0, 1) := by decide +kernel
theorem dX5_takes_15 : decode cX5_takes 15 = .ok (.dup, 1) := by decide +kernel
theorem dX5_takes_16 : decode cX5_takes 16 = .ok (.getfield 140, 3) := by decide +kernel
theorem dX5_takes_19 : decode cX5_takes 19 = .ok (.iload_n 2, 1) := by decide +kernel
theorem dX5_takes_20 : decode cX5_takes 20 = .ok (.ifCond .eq 7, 3) := by decide +kernel
theorem dX5_takes_23 : decode cX5_takes 23 = .ok (.iconst 1, 1) := by decide +kernel
theorem dX5_takes_24 : decode cX5_takes 24 = .ok (.goto 4, 3) := by decide +kernel
theorem dX5_takes_27 : decode cX5_takes 27 = .ok (.iconst 0, 1) := by decide +kernel
theorem dX5_takes_28 : decode cX5_takes 28 = .ok (.iadd, 1) := by decide +kernel
theorem dX5_takes_29 : decode cX5_takes 29 = .ok (.putfield 140, 3) := by decide +kernel
theorem dX5_takes_32 : decode cX5_takes 32 = .ok (.iload_n 2, 1) := by decide +kernel
theorem dX5_takes_33 : decode cX5_takes 33 = .ok (.ireturn, 1) := by decide +kernel
set_option maxRecDepth 20000 in
theorem ggX5_figure_X5_sign : GoodIn wsX5_figure wsX5_sign := goodIn_r _ [6, 1, 7, 8, 12, 13, 14, 15, 16, 17, 18, 19, 20, 21, 22, 23, 24, 25, 26, 27, 28, 29] (by decide +kernel) (by decide +kernel)
set_option maxRecDepth 20000 in
theorem gX5_figure_X5_sign : GoodIn wsX5_figure (wsV RX5 143 RX5 yX5_sign wsX5_sign) := goodIn_app (goodIn_of _ (by decide +kernel)) ggX5_figure_X5_sign
set_option maxRecDepth 20000 in
theorem ggX5_figure_X5_in : GoodIn wsX5_figure wsX5_in := goodIn_r _ [11] (by decide +kernel) (by decide +kernel)
set_option maxRecDepth 20000 in
theorem gX5_figure_X5_in : GoodIn wsX5_figure (va_wsS RX5 32 yX5_in wsX5_in) := goodIn_app (goodIn_of _ (by decide +kernel)) ggX5_figure_X5_in
theorem dX5_figure_0 : decode cX5_figure 0 = .ok (.aload_n 0, 1) := by decide +kernel
theorem dX5_figure_1 : decode cX5_figure 1 = .ok (.invokevirtual 143, 3) := by decide +kernel
theorem dX5_figure_4 : decode cX5_figure 4 = .ok (.bipush 48, 2) := by decide +kernel
theorem dX5_figure_6 : decode cX5_figure 6 = .ok (.iload_n 1, 1) := by decide +kernel
theorem dX5_figure_7 : decode cX5_figure 7 = .ok (.iadd, 1) := by decide +kernel
theorem dX5_figure_8 : decode cX5_figure 8 = .ok (.bipush 48, 2) := by decide +kernel
theorem dX5_figure_10 : decode cX5_figure 10 = .ok (.iload_n 2, 1) := by decide +kernel
theorem dX5_figure_11 : decode cX5_figure 11 = .ok (.iadd, 1) := by decide +kernel
theorem dX5_figure_12 : decode cX5_figure 12 = .ok (.invokestatic 32, 3) := by decide +kernel
theorem dX5_figure_15 : decode cX5_figure 15 = .ok (.ifCond .eq 13, 3) := by decide +kernel
theorem dX5_figure_18 : decode cX5_figure 18 = .ok (.aload_n 0, 1) := by decide +kernel
theorem dX5_figure_19 : decode cX5_figure 19 = .ok (.invokevirtual 143, 3) := by decide +kernel
theorem dX5_figure_22 : decode cX5_figure 22 = .ok (.bipush 48, 2) := by decide +kernel
theorem dX5_figure_24 : decode cX5_figure 24 = .ok (.isub, 1) := by decide +kernel
theorem dX5_figure_25 : decode cX5_figure 25 = .ok (.goto 4, 3) := by decide +kernel
theorem dX5_figure_28 : decode cX5_figure 28 = .ok (.iconst (-1), 1) := by decide +kernel
theorem dX5_figure_29 : decode cX5_figure 29 = .ok (.istore_n 3, 1) := by decide +kernel
theorem dX5_figure_30 : decode cX5_figure 30 = .ok (.aload_n 0, 1) := by decide +kernel
theorem dX5_figure_31 : decode cX5_figure 31 = .ok (.dup, 1) := by decide +kernel
theorem dX5_figure_32 : decode cX5_figure 32 = .ok (.getfield 140, 3) := by decide +kernel
theorem dX5_figure_35 : decode cX5_figure 35 = .ok (.iload_n 3, 1) := by decide +kernel
theorem dX5_figure_36 : decode cX5_figure 36 = .ok (.iconst (-1), 1) := by decide +kernel
theorem dX5_figure_37 : decode cX5_figure 37 = .ok (.if_icmp .ne 7, 3) := by decide +kernel
theorem dX5_figure_40 : decode cX5_figure 40 = .ok (.iconst 0, 1) := by decide +kernel
theorem dX5_figure_41 : decode cX5_figure 41 = .ok (.goto 4, 3) := by decide +kernel
theorem dX5_figure_44 : decode cX5_figure 44 = .ok (.iconst 1, 1) := by decide +kernel
theorem dX5_figure_45 : decode cX5_figure 45 = .ok (.iadd, 1) := by decide +kernel
theorem dX5_figure_46 : decode cX5_figure 46 = .ok (.putfield 140, 3) := by decide +kernel
theorem dX5_figure_49 : decode cX5_figure 49 = .ok (.iload_n 3, 1) := by decide +kernel
theorem dX5_figure_50 : decode cX5_figure 50 = .ok (.ireturn, 1) := by decide +kernel
set_option maxRecDepth 20000 in
theorem ggX5_readsNumber_X5_figure : GoodIn wsX5_readsNumber wsX5_figure := goodIn_r _ [5, 6, 7, 8, 9, 4, 10, 11, 12, 13, 14, 15, 16, 17, 18, 19, 20, 21, 22, 23, 24, 25, 26, 27, 28, 29, 30, 31, 32, 33] (by decide +kernel) (by decide +kernel)
set_option maxRecDepth 20000 in
theorem gX5_readsNumber_X5_figure : GoodIn wsX5_readsNumber (wsV RX5 146 RX5 yX5_figure wsX5_figure) := goodIn_app (goodIn_of _ (by decide +kernel)) ggX5_readsNumber_X5_figure
set_option maxRecDepth 20000 in
theorem ggX5_readsNumber_X5_sign : GoodIn wsX5_readsNumber wsX5_sign := goodIn_r _ [10, 6, 11, 12, 16, 17, 18, 19, 20, 21, 22, 23, 24, 25, 26, 27, 28, 29, 30, 31, 32, 33] (by decide +kernel) (by decide +kernel)
set_option maxRecDepth 20000 in
theorem gX5_readsNumber_X5_sign : GoodIn wsX5_readsNumber (wsV RX5 143 RX5 yX5_sign wsX5_sign) := goodIn_app (goodIn_of _ (by decide +kernel)) ggX5_readsNumber_X5_sign
set_option maxRecDepth 20000 in
theorem ggX5_readsNumber_X5_in : GoodIn wsX5_readsNumber wsX5_in := goodIn_r _ [15] (by decide +kernel) (by decide +kernel)
set_option maxRecDepth 20000 in
theorem gX5_readsNumber_X5_in : GoodIn wsX5_readsNumber (va_wsS RX5 32 yX5_in wsX5_in) := goodIn_app (goodIn_of _ (by decide +kernel)) ggX5_readsNumber_X5_in
theorem dX5_readsNumber_0 : decode cX5_readsNumber 0 = .ok (.aload_n 0, 1) := by decide +kernel
theorem dX5_readsNumber_1 : decode cX5_readsNumber 1 = .ok (.iconst 1, 1) := by decide +kernel
theorem dX5_readsNumber_2 : decode cX5_readsNumber 2 = .ok (.bipush 9, 2) := by decide +kernel
theorem dX5_readsNumber_4 : decode cX5_readsNumber 4 = .ok (.invokevirtual 146, 3) := by decide +kernel
theorem dX5_readsNumber_7 : decode cX5_readsNumber 7 = .ok (.istore_n 2, 1) := by decide +kernel
theorem dX5_readsNumber_8 : decode cX5_readsNumber 8 = .ok (.iload_n 2, 1) := by decide +kernel
theorem dX5_readsNumber_9 : decode cX5_readsNumber 9 = .ok (.iconst (-1), 1) := by decide +kernel
theorem dX5_readsNumber_10 : decode cX5_readsNumber 10 = .ok (.if_icmp .eq 46, 3) := by decide +kernel
theorem dX5_readsNumber_13 : decode cX5_readsNumber 13 = .ok (.aload_n 0, 1) := by decide +kernel
theorem dX5_readsNumber_14 : decode cX5_readsNumber 14 = .ok (.invokevirtual 143, 3) := by decide +kernel
theorem dX5_readsNumber_17 : decode cX5_readsNumber 17 = .ok (.bipush 48, 2) := by decide +kernel
theorem dX5_readsNumber_19 : decode cX5_readsNumber 19 = .ok (.bipush 57, 2) := by decide +kernel
theorem dX5_readsNumber_21 : decode cX5_readsNumber 21 = .ok (.invokestatic 32, 3) := by decide +kernel
theorem dX5_readsNumber_24 : decode cX5_readsNumber 24 = .ok (.ifCond .eq 32, 3) := by decide +kernel
theorem dX5_readsNumber_27 : decode cX5_readsNumber 27 = .ok (.bipush 10, 2) := by decide +kernel
theorem dX5_readsNumber_29 : decode cX5_readsNumber 29 = .ok (.iload_n 2, 1) := by decide +kernel
theorem dX5_readsNumber_30 : decode cX5_readsNumber 30 = .ok (.imul, 1) := by decide +kernel
theorem dX5_readsNumber_31 : decode cX5_readsNumber 31 = .ok (.aload_n 0, 1) := by decide +kernel
theorem dX5_readsNumber_32 : decode cX5_readsNumber 32 = .ok (.invokevirtual 143, 3) := by decide +kernel
theorem dX5_readsNumber_35 : decode cX5_readsNumber 35 = .ok (.iadd, 1) := by decide +kernel
theorem dX5_readsNumber_36 : decode cX5_readsNumber 36 = .ok (.bipush 48, 2) := by decide +kernel
theorem dX5_readsNumber_38 : decode cX5_readsNumber 38 = .ok (.isub, 1) := by decide +kernel
theorem dX5_readsNumber_39 : decode cX5_readsNumber 39 = .ok (.iload_n 1, 1) := by decide +kernel
theorem dX5_readsNumber_40 : decode cX5_readsNumber 40 = .ok (.if_icmp .gt 16, 3) := by decide +kernel
theorem dX5_readsNumber_43 : decode cX5_readsNumber 43 = .ok (.bipush 10, 2) := by decide +kernel
theorem dX5_readsNumber_45 : decode cX5_readsNumber 45 = .ok (.iload_n 2, 1) := by decide +kernel
theorem dX5_readsNumber_46 : decode cX5_readsNumber 46 = .ok (.imul, 1) := by decide +kernel
theorem dX5_readsNumber_47 : decode cX5_readsNumber 47 = .ok (.aload_n 0, 1) := by decide +kernel
theorem dX5_readsNumber_48 : decode cX5_readsNumber 48 = .ok (.iconst 0, 1) := by decide +kernel
theorem dX5_readsNumber_49 : decode cX5_readsNumber 49 = .ok (.bipush 9, 2) := by decide +kernel
theorem dX5_readsNumber_51 : decode cX5_readsNumber 51 = .ok (.invokevirtual 146, 3) := by decide +kernel
theorem dX5_readsNumber_54 : decode cX5_readsNumber 54 = .ok (.iadd, 1) := by decide +kernel
theorem dX5_readsNumber_55 : decode cX5_readsNumber 55 = .ok (.istore_n 2, 1) := by decide +kernel
theorem dX5_readsNumber_56 : decode cX5_readsNumber 56 = .ok (.iload_n 2, 1) := by decide +kernel
theorem dX5_readsNumber_57 : decode cX5_readsNumber 57 = .ok (.ireturn, 1) := by decide +kernel
set_option maxRecDepth 20000 in
theorem ggX5_readsPart_X5_sign : GoodIn wsX5_readsPart wsX5_sign := goodIn_r _ [9, 10, 11, 12, 28, 29, 30, 31, 32, 33, 34, 35, 36, 37, 38, 39, 40, 41, 42, 43, 44, 45] (by decide +kernel) (by decide +kernel)
set_option maxRecDepth 20000 in
theorem gX5_readsPart_X5_sign : GoodIn wsX5_readsPart (wsV RX5 143 RX5 yX5_sign wsX5_sign) := goodIn_app (goodIn_of _ (by decide +kernel)) ggX5_readsPart_X5_sign
set_option maxRecDepth 20000 in
theorem ggX5_readsPart_X5_takes : GoodIn wsX5_readsPart wsX5_takes := goodIn_r _ [16, 10, 5, 6, 7, 8, 9, 11, 12, 28, 29, 30, 31, 32, 33, 34, 35, 36, 37, 38, 39, 40, 41, 42, 43, 44, 45] (by decide +kernel) (by decide +kernel)
set_option maxRecDepth 20000 in
theorem gX5_readsPart_X5_takes : GoodIn wsX5_readsPart (wsV RX5 152 RX5 yX5_takes wsX5_takes) := goodIn_app (goodIn_of _ (by decide +kernel)) ggX5_readsPart_X5_takes
set_option maxRecDepth 20000 in
theorem ggX5_readsPart_X5_readsNumber : GoodIn wsX5_readsPart wsX5_readsNumber := goodIn_r _ [20, 21, 22, 23, 8, 24, 10, 5, 6, 7, 9, 11, 12, 25, 26, 27, 28, 29, 30, 31, 32, 33, 34, 35, 36, 37, 38, 39, 40, 41, 42, 43, 44, 45] (by decide +kernel) (by decide +kernel)
set_option maxRecDepth 20000 in
theorem gX5_readsPart_X5_readsNumber : GoodIn wsX5_readsPart (wsV RX5 155 RX5 yX5_readsNumber wsX5_readsNumber) := goodIn_app (goodIn_of _ (by decide +kernel)) ggX5_readsPart_X5_readsNumber
set_option maxRecDepth 20000 in
theorem ggX5_readsPart_X5_figure : GoodIn wsX5_readsPart wsX5_figure := goodIn_r _ [24, 10, 5, 6, 7, 8, 9, 11, 12, 25, 26, 27, 28, 29, 30, 31, 32, 33, 34, 35, 36, 37, 38, 39, 40, 41, 42, 43, 44, 45] (by decide +kernel) (by decide +kernel)
set_option maxRecDepth 20000 in
theorem gX5_readsPart_X5_figure : GoodIn wsX5_readsPart (wsV RX5 146 RX5 yX5_figure wsX5_figure) := goodIn_app (goodIn_of _ (by decide +kernel)) ggX5_readsPart_X5_figure
theorem dX5_readsPart_0 : decode cX5_readsPart 0 = .ok (.aload_n 0, 1) := by decide +kernel
theorem dX5_readsPart_1 : decode cX5_readsPart 1 = .ok (.aload_n 0, 1) := by decide +kernel
theorem dX5_readsPart_2 : decode cX5_readsPart 2 = .ok (.invokevirtual 143, 3) := by decide +kernel
theorem dX5_readsPart_5 : decode cX5_readsPart 5 = .ok (.putfield 149, 3) := by decide +kernel
theorem dX5_readsPart_8 : decode cX5_readsPart 8 = .ok (.aload_n 0, 1) := by decide +kernel
theorem dX5_readsPart_9 : decode cX5_readsPart 9 = .ok (.bipush 111, 2) := by decide +kernel
theorem dX5_readsPart_11 : decode cX5_readsPart 11 = .ok (.invokevirtual 152, 3) := by decide +kernel
theorem dX5_readsPart_14 : decode cX5_readsPart 14 = .ok (.ifCond .ne 12, 3) := by decide +kernel
theorem dX5_readsPart_17 : decode cX5_readsPart 17 = .ok (.aload_n 0, 1) := by decide +kernel
theorem dX5_readsPart_18 : decode cX5_readsPart 18 = .ok (.bipush 110, 2) := by decide +kernel
theorem dX5_readsPart_20 : decode cX5_readsPart 20 = .ok (.invokevirtual 152, 3) := by decide +kernel
theorem dX5_readsPart_23 : decode cX5_readsPart 23 = .ok (.ifCond .eq 5, 3) := by decide +kernel
theorem dX5_readsPart_26 : decode cX5_readsPart 26 = .ok (.iconst 1, 1) := by decide +kernel
theorem dX5_readsPart_27 : decode cX5_readsPart 27 = .ok (.ireturn, 1) := by decide +kernel
theorem dX5_readsPart_28 : decode cX5_readsPart 28 = .ok (.aload_n 0, 1) := by decide +kernel
theorem dX5_readsPart_29 : decode cX5_readsPart 29 = .ok (.bipush 104, 2) := by decide +kernel
theorem dX5_readsPart_31 : decode cX5_readsPart 31 = .ok (.invokevirtual 152, 3) := by decide +kernel
theorem dX5_readsPart_34 : decode cX5_readsPart 34 = .ok (.ifCond .eq 27, 3) := by decide +kernel
theorem dX5_readsPart_37 : decode cX5_readsPart 37 = .ok (.aload_n 0, 1) := by decide +kernel
theorem dX5_readsPart_38 : decode cX5_readsPart 38 = .ok (.aload_n 0, 1) := by decide +kernel
theorem dX5_readsPart_39 : decode cX5_readsPart 39 = .ok (.bipush 23, 2) := by decide +kernel
theorem dX5_readsPart_41 : decode cX5_readsPart 41 = .ok (.invokevirtual 155, 3) := by decide +kernel
theorem dX5_readsPart_44 : decode cX5_readsPart 44 = .ok (.putfield 158, 3) := by decide +kernel
theorem dX5_readsPart_47 : decode cX5_readsPart 47 = .ok (.aload_n 0, 1) := by decide +kernel
theorem dX5_readsPart_48 : decode cX5_readsPart 48 = .ok (.getfield 158, 3) := by decide +kernel
theorem dX5_readsPart_51 : decode cX5_readsPart 51 = .ok (.iconst (-1), 1) := by decide +kernel
theorem dX5_readsPart_52 : decode cX5_readsPart 52 = .ok (.if_icmp .eq 7, 3) := by decide +kernel
theorem dX5_readsPart_55 : decode cX5_readsPart 55 = .ok (.iconst 1, 1) := by decide +kernel
theorem dX5_readsPart_56 : decode cX5_readsPart 56 = .ok (.goto 4, 3) := by decide +kernel
theorem dX5_readsPart_59 : decode cX5_readsPart 59 = .ok (.iconst 0, 1) := by decide +kernel
theorem dX5_readsPart_60 : decode cX5_readsPart 60 = .ok (.ireturn, 1) := by decide +kernel
theorem dX5_readsPart_61 : decode cX5_readsPart 61 = .ok (.aload_n 0, 1) := by decide +kernel
theorem dX5_readsPart_62 : decode cX5_readsPart 62 = .ok (.bipush 102, 2) := by decide +kernel
theorem dX5_readsPart_64 : decode cX5_readsPart 64 = .ok (.invokevirtual 152, 3) := by decide +kernel
theorem dX5_readsPart_67 : decode cX5_readsPart 67 = .ok (.ifCond .eq 27, 3) := by decide +kernel
theorem dX5_readsPart_70 : decode cX5_readsPart 70 = .ok (.aload_n 0, 1) := by decide +kernel
theorem dX5_readsPart_71 : decode cX5_readsPart 71 = .ok (.aload_n 0, 1) := by decide +kernel
theorem dX5_readsPart_72 : decode cX5_readsPart 72 = .ok (.iconst 0, 1) := by decide +kernel
theorem dX5_readsPart_73 : decode cX5_readsPart 73 = .ok (.iconst 5, 1) := by decide +kernel
theorem dX5_readsPart_74 : decode cX5_readsPart 74 = .ok (.invokevirtual 146, 3) := by decide +kernel
theorem dX5_readsPart_77 : decode cX5_readsPart 77 = .ok (.putfield 158, 3) := by decide +kernel
theorem dX5_readsPart_80 : decode cX5_readsPart 80 = .ok (.aload_n 0, 1) := by decide +kernel
theorem dX5_readsPart_81 : decode cX5_readsPart 81 = .ok (.getfield 158, 3) := by decide +kernel
theorem dX5_readsPart_84 : decode cX5_readsPart 84 = .ok (.iconst (-1), 1) := by decide +kernel
theorem dX5_readsPart_85 : decode cX5_readsPart 85 = .ok (.if_icmp .eq 7, 3) := by decide +kernel
theorem dX5_readsPart_88 : decode cX5_readsPart 88 = .ok (.iconst 1, 1) := by decide +kernel
theorem dX5_readsPart_89 : decode cX5_readsPart 89 = .ok (.goto 4, 3) := by decide +kernel
theorem dX5_readsPart_92 : decode cX5_readsPart 92 = .ok (.iconst 0, 1) := by decide +kernel
theorem dX5_readsPart_93 : decode cX5_readsPart 93 = .ok (.ireturn, 1) := by decide +kernel
theorem dX5_readsPart_94 : decode cX5_readsPart 94 = .ok (.aload_n 0, 1) := by decide +kernel
theorem dX5_readsPart_95 : decode cX5_readsPart 95 = .ok (.aload_n 0, 1) := by decide +kernel
theorem dX5_readsPart_96 : decode cX5_readsPart 96 = .ok (.bipush 98, 2) := by decide +kernel
theorem dX5_readsPart_98 : decode cX5_readsPart 98 = .ok (.invokevirtual 152, 3) := by decide +kernel
theorem dX5_readsPart_101 : decode cX5_readsPart 101 = .ok (.ifCond .ne 12, 3) := by decide +kernel
theorem dX5_readsPart_104 : decode cX5_readsPart 104 = .ok (.aload_n 0, 1) := by decide +kernel
theorem dX5_readsPart_105 : decode cX5_readsPart 105 = .ok (.bipush 119, 2) := by decide +kernel
theorem dX5_readsPart_107 : decode cX5_readsPart 107 = .ok (.invokevirtual 152, 3) := by decide +kernel
theorem dX5_readsPart_110 : decode cX5_readsPart 110 = .ok (.ifCond .eq 12, 3) := by decide +kernel
theorem dX5_readsPart_113 : decode cX5_readsPart 113 = .ok (.aload_n 0, 1) := by decide +kernel
theorem dX5_readsPart_114 : decode cX5_readsPart 114 = .ok (.iconst 0, 1) := by decide +kernel
theorem dX5_readsPart_115 : decode cX5_readsPart 115 = .ok (.iconst 5, 1) := by decide +kernel
theorem dX5_readsPart_116 : decode cX5_readsPart 116 = .ok (.invokevirtual 146, 3) := by decide +kernel
theorem dX5_readsPart_119 : decode cX5_readsPart 119 = .ok (.goto 4, 3) := by decide +kernel
theorem dX5_readsPart_122 : decode cX5_readsPart 122 = .ok (.iconst (-1), 1) := by decide +kernel
theorem dX5_readsPart_123 : decode cX5_readsPart 123 = .ok (.putfield 158, 3) := by decide +kernel
theorem dX5_readsPart_126 : decode cX5_readsPart 126 = .ok (.aload_n 0, 1) := by decide +kernel
theorem dX5_readsPart_127 : decode cX5_readsPart 127 = .ok (.aload_n 0, 1) := by decide +kernel
theorem dX5_readsPart_128 : decode cX5_readsPart 128 = .ok (.getfield 158, 3) := by decide +kernel
theorem dX5_readsPart_131 : decode cX5_readsPart 131 = .ok (.iconst (-1), 1) := by decide +kernel
theorem dX5_readsPart_132 : decode cX5_readsPart 132 = .ok (.if_icmp .ne 7, 3) := by decide +kernel
theorem dX5_readsPart_135 : decode cX5_readsPart 135 = .ok (.iconst (-1), 1) := by decide +kernel
theorem dX5_readsPart_136 : decode cX5_readsPart 136 = .ok (.goto 9, 3) := by decide +kernel
theorem dX5_readsPart_139 : decode cX5_readsPart 139 = .ok (.aload_n 0, 1) := by decide +kernel
theorem dX5_readsPart_140 : decode cX5_readsPart 140 = .ok (.iconst 0, 1) := by decide +kernel
theorem dX5_readsPart_141 : decode cX5_readsPart 141 = .ok (.iconst 5, 1) := by decide +kernel
theorem dX5_readsPart_142 : decode cX5_readsPart 142 = .ok (.invokevirtual 146, 3) := by decide +kernel
theorem dX5_readsPart_145 : decode cX5_readsPart 145 = .ok (.putfield 161, 3) := by decide +kernel
theorem dX5_readsPart_148 : decode cX5_readsPart 148 = .ok (.aload_n 0, 1) := by decide +kernel
theorem dX5_readsPart_149 : decode cX5_readsPart 149 = .ok (.aload_n 0, 1) := by decide +kernel
theorem dX5_readsPart_150 : decode cX5_readsPart 150 = .ok (.getfield 161, 3) := by decide +kernel
theorem dX5_readsPart_153 : decode cX5_readsPart 153 = .ok (.iconst (-1), 1) := by decide +kernel
theorem dX5_readsPart_154 : decode cX5_readsPart 154 = .ok (.if_icmp .eq 21, 3) := by decide +kernel
theorem dX5_readsPart_157 : decode cX5_readsPart 157 = .ok (.aload_n 0, 1) := by decide +kernel
theorem dX5_readsPart_158 : decode cX5_readsPart 158 = .ok (.getfield 149, 3) := by decide +kernel
theorem dX5_readsPart_161 : decode cX5_readsPart 161 = .ok (.bipush 98, 2) := by decide +kernel
theorem dX5_readsPart_163 : decode cX5_readsPart 163 = .ok (.if_icmp .ne 12, 3) := by decide +kernel
theorem dX5_readsPart_166 : decode cX5_readsPart 166 = .ok (.aload_n 0, 1) := by decide +kernel
theorem dX5_readsPart_167 : decode cX5_readsPart 167 = .ok (.bipush 99, 2) := by decide +kernel
theorem dX5_readsPart_169 : decode cX5_readsPart 169 = .ok (.invokevirtual 155, 3) := by decide +kernel
theorem dX5_readsPart_172 : decode cX5_readsPart 172 = .ok (.goto 7, 3) := by decide +kernel
theorem dX5_readsPart_175 : decode cX5_readsPart 175 = .ok (.aload_n 0, 1) := by decide +kernel
theorem dX5_readsPart_176 : decode cX5_readsPart 176 = .ok (.getfield 161, 3) := by decide +kernel
theorem dX5_readsPart_179 : decode cX5_readsPart 179 = .ok (.putfield 164, 3) := by decide +kernel
theorem dX5_readsPart_182 : decode cX5_readsPart 182 = .ok (.aload_n 0, 1) := by decide +kernel
theorem dX5_readsPart_183 : decode cX5_readsPart 183 = .ok (.getfield 164, 3) := by decide +kernel
theorem dX5_readsPart_186 : decode cX5_readsPart 186 = .ok (.iconst (-1), 1) := by decide +kernel
theorem dX5_readsPart_187 : decode cX5_readsPart 187 = .ok (.if_icmp .eq 7, 3) := by decide +kernel
theorem dX5_readsPart_190 : decode cX5_readsPart 190 = .ok (.iconst 1, 1) := by decide +kernel
theorem dX5_readsPart_191 : decode cX5_readsPart 191 = .ok (.goto 4, 3) := by decide +kernel
theorem dX5_readsPart_194 : decode cX5_readsPart 194 = .ok (.iconst 0, 1) := by decide +kernel
theorem dX5_readsPart_195 : decode cX5_readsPart 195 = .ok (.ireturn, 1) := by decide +kernel
set_option maxRecDepth 20000 in
theorem ggX5_isAuction_X5_readsPart : GoodIn wsX5_isAuction wsX5_readsPart := goodIn_r _ [7, 8, 9, 10, 11, 12, 13, 14, 6, 15, 1, 2, 16, 17, 18, 19, 20, 21, 22, 23, 24, 25, 26, 27, 28, 29, 30, 31, 32, 33, 34, 35, 36, 37, 38, 39, 40, 41, 42, 43, 44, 45, 46, 47, 48, 49] (by decide +kernel) (by decide +kernel)
set_option maxRecDepth 20000 in
theorem gX5_isAuction_X5_readsPart : GoodIn wsX5_isAuction (wsV RX5 167 RX5 yX5_readsPart wsX5_readsPart) := goodIn_app (goodIn_of _ (by decide +kernel)) ggX5_isAuction_X5_readsPart
set_option maxRecDepth 20000 in
theorem ggX5_isAuction_X5_takes : GoodIn wsX5_isAuction wsX5_takes := goodIn_r _ [20, 1, 12, 13, 14, 6, 15, 2, 16, 32, 33, 34, 35, 36, 37, 38, 39, 40, 41, 42, 43, 44, 45, 46, 47, 48, 49] (by decide +kernel) (by decide +kernel)
set_option maxRecDepth 20000 in
theorem gX5_isAuction_X5_takes : GoodIn wsX5_isAuction (wsV RX5 152 RX5 yX5_takes wsX5_takes) := goodIn_app (goodIn_of _ (by decide +kernel)) ggX5_isAuction_X5_takes
theorem dX5_isAuction_0 : decode cX5_isAuction 0 = .ok (.aload_n 0, 1) := by decide +kernel
theorem dX5_isAuction_1 : decode cX5_isAuction 1 = .ok (.iconst 0, 1) := by decide +kernel
theorem dX5_isAuction_2 : decode cX5_isAuction 2 = .ok (.putfield 140, 3) := by decide +kernel
theorem dX5_isAuction_5 : decode cX5_isAuction 5 = .ok (.aload_n 0, 1) := by decide +kernel
theorem dX5_isAuction_6 : decode cX5_isAuction 6 = .ok (.invokevirtual 167, 3) := by decide +kernel
theorem dX5_isAuction_9 : decode cX5_isAuction 9 = .ok (.ifCond .eq 27, 3) := by decide +kernel
theorem dX5_isAuction_12 : decode cX5_isAuction 12 = .ok (.aload_n 0, 1) := by decide +kernel
theorem dX5_isAuction_13 : decode cX5_isAuction 13 = .ok (.getfield 140, 3) := by decide +kernel
theorem dX5_isAuction_16 : decode cX5_isAuction 16 = .ok (.aload_n 0, 1) := by decide +kernel
theorem dX5_isAuction_17 : decode cX5_isAuction 17 = .ok (.getfield 137, 3) := by decide +kernel
theorem dX5_isAuction_20 : decode cX5_isAuction 20 = .ok (.if_icmp .ne 5, 3) := by decide +kernel
theorem dX5_isAuction_23 : decode cX5_isAuction 23 = .ok (.iconst 1, 1) := by decide +kernel
theorem dX5_isAuction_24 : decode cX5_isAuction 24 = .ok (.ireturn, 1) := by decide +kernel
theorem dX5_isAuction_25 : decode cX5_isAuction 25 = .ok (.aload_n 0, 1) := by decide +kernel
theorem dX5_isAuction_26 : decode cX5_isAuction 26 = .ok (.bipush 59, 2) := by decide +kernel
theorem dX5_isAuction_28 : decode cX5_isAuction 28 = .ok (.invokevirtual 152, 3) := by decide +kernel
theorem dX5_isAuction_31 : decode cX5_isAuction 31 = .ok (.ifCond .ne (-26), 3) := by decide +kernel
theorem dX5_isAuction_34 : decode cX5_isAuction 34 = .ok (.iconst 0, 1) := by decide +kernel
theorem dX5_isAuction_35 : decode cX5_isAuction 35 = .ok (.ireturn, 1) := by decide +kernel
theorem dX5_isAuction_36 : decode cX5_isAuction 36 = .ok (.iconst 0, 1) := by decide +kernel
theorem dX5_isAuction_37 : decode cX5_isAuction 37 = .ok (.ireturn, 1) := by decide +kernel
set_option maxRecDepth 20000 in
theorem ggX5_firstError_X5_isAuction : GoodIn wsX5_firstError wsX5_isAuction := goodIn_r _ [7, 2, 8, 9, 10, 11, 6, 12, 13, 14, 15, 16, 17, 18, 19, 20, 21, 22, 23, 24, 25, 26, 27, 28, 29, 30, 31, 32, 33, 34, 35, 36, 37, 38, 39, 40, 41, 42, 43, 44, 45, 46, 47, 48, 49, 50, 51, 52, 53, 54] (by decide +kernel) (by decide +kernel)
set_option maxRecDepth 20000 in
theorem gX5_firstError_X5_isAuction : GoodIn wsX5_firstError (wsV RX5 171 RX5 yX5_isAuction wsX5_isAuction) := goodIn_app (goodIn_of _ (by decide +kernel)) ggX5_firstError_X5_isAuction
theorem dX5_firstError_0 : decode cX5_firstError 0 = .ok (.aload_n 0, 1) := by decide +kernel
theorem dX5_firstError_1 : decode cX5_firstError 1 = .ok (.iconst 0, 1) := by decide +kernel
theorem dX5_firstError_2 : decode cX5_firstError 2 = .ok (.putfield 29, 3) := by decide +kernel
theorem dX5_firstError_5 : decode cX5_firstError 5 = .ok (.aload_n 0, 1) := by decide +kernel
theorem dX5_firstError_6 : decode cX5_firstError 6 = .ok (.invokevirtual 171, 3) := by decide +kernel
theorem dX5_firstError_9 : decode cX5_firstError 9 = .ok (.pop, 1) := by decide +kernel
theorem dX5_firstError_10 : decode cX5_firstError 10 = .ok (.aload_n 0, 1) := by decide +kernel
theorem dX5_firstError_11 : decode cX5_firstError 11 = .ok (.getfield 140, 3) := by decide +kernel
theorem dX5_firstError_14 : decode cX5_firstError 14 = .ok (.ireturn, 1) := by decide +kernel
set_option maxRecDepth 20000 in
theorem ggX5_isDone_X5_reason : GoodIn wsX5_isDone wsX5_reason := goodIn_r _ [10, 5, 11, 12, 13, 9, 14, 15, 16, 17, 18, 19, 20, 21, 22, 23, 24, 25, 26, 107, 108, 109, 110, 111, 112, 113, 114, 115, 116, 117, 118, 119, 120, 121, 122, 123, 124] (by decide +kernel) (by decide +kernel)
set_option maxRecDepth 20000 in
theorem gX5_isDone_X5_reason : GoodIn wsX5_isDone (wsV RX5 109 RX5 yX5_reason wsX5_reason) := goodIn_app (goodIn_of _ (by decide +kernel)) ggX5_isDone_X5_reason
set_option maxRecDepth 20000 in
theorem ggX5_isDone_X5_seals : GoodIn wsX5_isDone wsX5_seals := goodIn_r _ [30, 5, 15, 16, 17, 9, 18, 107, 108, 109, 110, 111, 112, 113, 114, 115, 116, 117, 118, 119, 120, 121, 122, 123, 124] (by decide +kernel) (by decide +kernel)
set_option maxRecDepth 20000 in
theorem gX5_isDone_X5_seals : GoodIn wsX5_isDone (wsV RX5 112 RX5 yX5_seals wsX5_seals) := goodIn_app (goodIn_of _ (by decide +kernel)) ggX5_isDone_X5_seals
set_option maxRecDepth 20000 in
theorem ggX5_isDone_X5_whyKept : GoodIn wsX5_isDone wsX5_whyKept := goodIn_r _ [34, 5, 11, 12, 13, 9, 14, 15, 16, 17, 18, 23, 24, 25, 26, 35, 36, 37, 38, 107, 108, 109, 110, 111, 112, 113, 114, 115, 116, 117, 118, 119, 120, 121, 122, 123, 124] (by decide +kernel) (by decide +kernel)
set_option maxRecDepth 20000 in
theorem gX5_isDone_X5_whyKept : GoodIn wsX5_isDone (wsV RX5 115 RX5 yX5_whyKept wsX5_whyKept) := goodIn_app (goodIn_of _ (by decide +kernel)) ggX5_isDone_X5_whyKept
set_option maxRecDepth 20000 in
theorem ggX5_isDone_X5_withdraws : GoodIn wsX5_isDone wsX5_withdraws := goodIn_r _ [42, 5, 35, 36, 37, 9, 38, 15, 16, 17, 18, 43, 44, 45, 46, 107, 108, 109, 110, 111, 112, 113, 114, 115, 116, 117, 118, 119, 120, 121, 122, 123, 124] (by decide +kernel) (by decide +kernel)
set_option maxRecDepth 20000 in
theorem gX5_isDone_X5_withdraws : GoodIn wsX5_isDone (wsV RX5 118 RX5 yX5_withdraws wsX5_withdraws) := goodIn_app (goodIn_of _ (by decide +kernel)) ggX5_isDone_X5_withdraws
set_option maxRecDepth 20000 in
theorem ggX5_isDone_X5_pauses : GoodIn wsX5_isDone wsX5_pauses := goodIn_r _ [50, 5, 107, 108, 109, 110, 111, 112, 113, 114, 115, 116, 117, 118, 119, 120, 121, 122, 123, 124] (by decide +kernel) (by decide +kernel)
set_option maxRecDepth 20000 in
theorem gX5_isDone_X5_pauses : GoodIn wsX5_isDone (wsV RX5 121 RX5 yX5_pauses wsX5_pauses) := goodIn_app (goodIn_of _ (by decide +kernel)) ggX5_isDone_X5_pauses
set_option maxRecDepth 20000 in
theorem ggX5_isDone_X5_opens : GoodIn wsX5_isDone wsX5_opens := goodIn_r _ [54, 55, 56, 5, 57, 58, 59, 9, 60, 61, 62, 63, 64, 65, 66, 67, 68, 69, 70, 71, 72, 73, 74, 75, 76, 77, 78, 79, 80, 11, 12, 13, 14, 15, 16, 17, 18, 19, 20, 21, 22, 23, 24, 25, 26, 81, 82, 83, 84, 43, 44, 45, 46, 107, 108, 109, 110, 111, 112, 113, 114, 115, 116, 117, 118, 119, 120, 121, 122, 123, 124] (by decide +kernel) (by decide +kernel)
set_option maxRecDepth 20000 in
theorem gX5_isDone_X5_opens : GoodIn wsX5_isDone (wsV RX5 124 RX5 yX5_opens wsX5_opens) := goodIn_app (goodIn_of _ (by decide +kernel)) ggX5_isDone_X5_opens
set_option maxRecDepth 20000 in
theorem ggX5_isDone_X5_canFish : GoodIn wsX5_isDone wsX5_canFish := goodIn_r _ [88, 5, 19, 20, 21, 9, 22, 107, 108, 109, 110, 111, 112, 113, 114, 115, 116, 117, 118, 119, 120, 121, 122, 123, 124] (by decide +kernel) (by decide +kernel)
set_option maxRecDepth 20000 in
theorem gX5_isDone_X5_canFish : GoodIn wsX5_isDone (wsV RX5 128 RX5 yX5_canFish wsX5_canFish) := goodIn_app (goodIn_of _ (by decide +kernel)) ggX5_isDone_X5_canFish
set_option maxRecDepth 20000 in
theorem ggX5_isDone_X5_fishes : GoodIn wsX5_isDone wsX5_fishes := goodIn_r _ [92, 5, 19, 20, 21, 9, 22, 81, 82, 83, 84, 43, 44, 45, 46, 93, 94, 95, 96, 97, 98, 99, 100, 101, 102, 107, 108, 109, 110, 111, 112, 113, 114, 115, 116, 117, 118, 119, 120, 121, 122, 123, 124] (by decide +kernel) (by decide +kernel)
set_option maxRecDepth 20000 in
theorem gX5_isDone_X5_fishes : GoodIn wsX5_isDone (wsV RX5 131 RX5 yX5_fishes wsX5_fishes) := goodIn_app (goodIn_of _ (by decide +kernel)) ggX5_isDone_X5_fishes
set_option maxRecDepth 20000 in
theorem ggX5_isDone_X5_dawns : GoodIn wsX5_isDone wsX5_dawns := goodIn_r _ [106, 5, 19, 20, 21, 9, 22, 81, 82, 83, 84, 107, 108, 109, 110, 111, 112, 113, 114, 115, 116, 117, 118, 119, 120, 121, 122, 123, 124] (by decide +kernel) (by decide +kernel)
set_option maxRecDepth 20000 in
theorem gX5_isDone_X5_dawns : GoodIn wsX5_isDone (wsV RX5 134 RX5 yX5_dawns wsX5_dawns) := goodIn_app (goodIn_of _ (by decide +kernel)) ggX5_isDone_X5_dawns
theorem dX5_isDone_0 : decode cX5_isDone 0 = .ok (.aload_n 0, 1) := by decide +kernel
theorem dX5_isDone_1 : decode cX5_isDone 1 = .ok (.getfield 149, 3) := by decide +kernel
theorem dX5_isDone_4 : decode cX5_isDone 4 = .ok (.lookupswitch 199 #[(98, 52), (102, 171), (104, 132), (111, 149), (119, 96)], 52) := by decide +kernel
theorem dX5_isDone_56 : decode cX5_isDone 56 = .ok (.aload_n 0, 1) := by decide +kernel
theorem dX5_isDone_57 : decode cX5_isDone 57 = .ok (.aload_n 0, 1) := by decide +kernel
theorem dX5_isDone_58 : decode cX5_isDone 58 = .ok (.getfield 158, 3) := by decide +kernel
theorem dX5_isDone_61 : decode cX5_isDone 61 = .ok (.aload_n 0, 1) := by decide +kernel
theorem dX5_isDone_62 : decode cX5_isDone 62 = .ok (.getfield 161, 3) := by decide +kernel
theorem dX5_isDone_65 : decode cX5_isDone 65 = .ok (.aload_n 0, 1) := by decide +kernel
theorem dX5_isDone_66 : decode cX5_isDone 66 = .ok (.getfield 164, 3) := by decide +kernel
theorem dX5_isDone_69 : decode cX5_isDone 69 = .ok (.invokevirtual 109, 3) := by decide +kernel
theorem dX5_isDone_72 : decode cX5_isDone 72 = .ok (.ifCond .ne 26, 3) := by decide +kernel
theorem dX5_isDone_75 : decode cX5_isDone 75 = .ok (.aload_n 0, 1) := by decide +kernel
theorem dX5_isDone_76 : decode cX5_isDone 76 = .ok (.aload_n 0, 1) := by decide +kernel
theorem dX5_isDone_77 : decode cX5_isDone 77 = .ok (.getfield 158, 3) := by decide +kernel
theorem dX5_isDone_80 : decode cX5_isDone 80 = .ok (.aload_n 0, 1) := by decide +kernel
theorem dX5_isDone_81 : decode cX5_isDone 81 = .ok (.getfield 161, 3) := by decide +kernel
theorem dX5_isDone_84 : decode cX5_isDone 84 = .ok (.aload_n 0, 1) := by decide +kernel
theorem dX5_isDone_85 : decode cX5_isDone 85 = .ok (.getfield 164, 3) := by decide +kernel
theorem dX5_isDone_88 : decode cX5_isDone 88 = .ok (.invokevirtual 112, 3) := by decide +kernel
theorem dX5_isDone_91 : decode cX5_isDone 91 = .ok (.ifCond .lt 7, 3) := by decide +kernel
theorem dX5_isDone_94 : decode cX5_isDone 94 = .ok (.iconst 1, 1) := by decide +kernel
theorem dX5_isDone_95 : decode cX5_isDone 95 = .ok (.goto 4, 3) := by decide +kernel
theorem dX5_isDone_98 : decode cX5_isDone 98 = .ok (.iconst 0, 1) := by decide +kernel
theorem dX5_isDone_99 : decode cX5_isDone 99 = .ok (.ireturn, 1) := by decide +kernel
theorem dX5_isDone_100 : decode cX5_isDone 100 = .ok (.aload_n 0, 1) := by decide +kernel
theorem dX5_isDone_101 : decode cX5_isDone 101 = .ok (.aload_n 0, 1) := by decide +kernel
theorem dX5_isDone_102 : decode cX5_isDone 102 = .ok (.getfield 158, 3) := by decide +kernel
theorem dX5_isDone_105 : decode cX5_isDone 105 = .ok (.aload_n 0, 1) := by decide +kernel
theorem dX5_isDone_106 : decode cX5_isDone 106 = .ok (.getfield 161, 3) := by decide +kernel
theorem dX5_isDone_109 : decode cX5_isDone 109 = .ok (.invokevirtual 115, 3) := by decide +kernel
theorem dX5_isDone_112 : decode cX5_isDone 112 = .ok (.ifCond .ne 22, 3) := by decide +kernel
theorem dX5_isDone_115 : decode cX5_isDone 115 = .ok (.aload_n 0, 1) := by decide +kernel
theorem dX5_isDone_116 : decode cX5_isDone 116 = .ok (.aload_n 0, 1) := by decide +kernel
theorem dX5_isDone_117 : decode cX5_isDone 117 = .ok (.getfield 158, 3) := by decide +kernel
theorem dX5_isDone_120 : decode cX5_isDone 120 = .ok (.aload_n 0, 1) := by decide +kernel
theorem dX5_isDone_121 : decode cX5_isDone 121 = .ok (.getfield 161, 3) := by decide +kernel
theorem dX5_isDone_124 : decode cX5_isDone 124 = .ok (.invokevirtual 118, 3) := by decide +kernel
theorem dX5_isDone_127 : decode cX5_isDone 127 = .ok (.ifCond .lt 7, 3) := by decide +kernel
theorem dX5_isDone_130 : decode cX5_isDone 130 = .ok (.iconst 1, 1) := by decide +kernel
theorem dX5_isDone_131 : decode cX5_isDone 131 = .ok (.goto 4, 3) := by decide +kernel
theorem dX5_isDone_134 : decode cX5_isDone 134 = .ok (.iconst 0, 1) := by decide +kernel
theorem dX5_isDone_135 : decode cX5_isDone 135 = .ok (.ireturn, 1) := by decide +kernel
theorem dX5_isDone_136 : decode cX5_isDone 136 = .ok (.aload_n 0, 1) := by decide +kernel
theorem dX5_isDone_137 : decode cX5_isDone 137 = .ok (.aload_n 0, 1) := by decide +kernel
theorem dX5_isDone_138 : decode cX5_isDone 138 = .ok (.getfield 158, 3) := by decide +kernel
theorem dX5_isDone_141 : decode cX5_isDone 141 = .ok (.invokevirtual 121, 3) := by decide +kernel
theorem dX5_isDone_144 : decode cX5_isDone 144 = .ok (.ifCond .lt 7, 3) := by decide +kernel
theorem dX5_isDone_147 : decode cX5_isDone 147 = .ok (.iconst 1, 1) := by decide +kernel
theorem dX5_isDone_148 : decode cX5_isDone 148 = .ok (.goto 4, 3) := by decide +kernel
theorem dX5_isDone_151 : decode cX5_isDone 151 = .ok (.iconst 0, 1) := by decide +kernel
theorem dX5_isDone_152 : decode cX5_isDone 152 = .ok (.ireturn, 1) := by decide +kernel
theorem dX5_isDone_153 : decode cX5_isDone 153 = .ok (.aload_n 0, 1) := by decide +kernel
theorem dX5_isDone_154 : decode cX5_isDone 154 = .ok (.getfield 7, 3) := by decide +kernel
theorem dX5_isDone_157 : decode cX5_isDone 157 = .ok (.iconst 2, 1) := by decide +kernel
theorem dX5_isDone_158 : decode cX5_isDone 158 = .ok (.iaload, 1) := by decide +kernel
theorem dX5_isDone_159 : decode cX5_isDone 159 = .ok (.ifCond .ne 14, 3) := by decide +kernel
theorem dX5_isDone_162 : decode cX5_isDone 162 = .ok (.aload_n 0, 1) := by decide +kernel
theorem dX5_isDone_163 : decode cX5_isDone 163 = .ok (.invokevirtual 124, 3) := by decide +kernel
theorem dX5_isDone_166 : decode cX5_isDone 166 = .ok (.ifCond .lt 7, 3) := by decide +kernel
theorem dX5_isDone_169 : decode cX5_isDone 169 = .ok (.iconst 1, 1) := by decide +kernel
theorem dX5_isDone_170 : decode cX5_isDone 170 = .ok (.goto 4, 3) := by decide +kernel
theorem dX5_isDone_173 : decode cX5_isDone 173 = .ok (.iconst 0, 1) := by decide +kernel
theorem dX5_isDone_174 : decode cX5_isDone 174 = .ok (.ireturn, 1) := by decide +kernel
theorem dX5_isDone_175 : decode cX5_isDone 175 = .ok (.aload_n 0, 1) := by decide +kernel
theorem dX5_isDone_176 : decode cX5_isDone 176 = .ok (.aload_n 0, 1) := by decide +kernel
theorem dX5_isDone_177 : decode cX5_isDone 177 = .ok (.getfield 158, 3) := by decide +kernel
theorem dX5_isDone_180 : decode cX5_isDone 180 = .ok (.invokevirtual 128, 3) := by decide +kernel
theorem dX5_isDone_183 : decode cX5_isDone 183 = .ok (.ifCond .eq 18, 3) := by decide +kernel
theorem dX5_isDone_186 : decode cX5_isDone 186 = .ok (.aload_n 0, 1) := by decide +kernel
theorem dX5_isDone_187 : decode cX5_isDone 187 = .ok (.aload_n 0, 1) := by decide +kernel
theorem dX5_isDone_188 : decode cX5_isDone 188 = .ok (.getfield 158, 3) := by decide +kernel
theorem dX5_isDone_191 : decode cX5_isDone 191 = .ok (.invokevirtual 131, 3) := by decide +kernel
theorem dX5_isDone_194 : decode cX5_isDone 194 = .ok (.ifCond .lt 7, 3) := by decide +kernel
theorem dX5_isDone_197 : decode cX5_isDone 197 = .ok (.iconst 1, 1) := by decide +kernel
theorem dX5_isDone_198 : decode cX5_isDone 198 = .ok (.goto 4, 3) := by decide +kernel
theorem dX5_isDone_201 : decode cX5_isDone 201 = .ok (.iconst 0, 1) := by decide +kernel
theorem dX5_isDone_202 : decode cX5_isDone 202 = .ok (.ireturn, 1) := by decide +kernel
theorem dX5_isDone_203 : decode cX5_isDone 203 = .ok (.aload_n 0, 1) := by decide +kernel
theorem dX5_isDone_204 : decode cX5_isDone 204 = .ok (.invokevirtual 134, 3) := by decide +kernel
theorem dX5_isDone_207 : decode cX5_isDone 207 = .ok (.ifCond .lt 7, 3) := by decide +kernel
theorem dX5_isDone_210 : decode cX5_isDone 210 = .ok (.iconst 1, 1) := by decide +kernel
theorem dX5_isDone_211 : decode cX5_isDone 211 = .ok (.goto 4, 3) := by decide +kernel
theorem dX5_isDone_214 : decode cX5_isDone 214 = .ok (.iconst 0, 1) := by decide +kernel
theorem dX5_isDone_215 : decode cX5_isDone 215 = .ok (.ireturn, 1) := by decide +kernel
set_option maxRecDepth 20000 in
theorem ggX5_run_X5_isAuction : GoodIn wsX5_run wsX5_isAuction := goodIn_r _ [7, 1, 2, 8, 9, 10, 6, 11, 12, 13, 14, 15, 16, 17, 18, 19, 20, 21, 22, 23, 24, 25, 26, 27, 28, 29, 30, 31, 32, 33, 34, 35, 152, 153, 154, 155, 156, 157, 158, 159, 160, 161, 162, 163, 164, 165, 166, 167, 168, 169] (by decide +kernel) (by decide +kernel)
set_option maxRecDepth 20000 in
theorem gX5_run_X5_isAuction : GoodIn wsX5_run (wsV RX5 171 RX5 yX5_isAuction wsX5_isAuction) := goodIn_app (goodIn_of _ (by decide +kernel)) ggX5_run_X5_isAuction
set_option maxRecDepth 20000 in
theorem ggX5_run_X5_holds : GoodIn wsX5_run wsX5_holds := goodIn_r _ [39, 40, 152, 153, 154, 155, 156, 157, 158, 159, 160, 161, 162, 163, 164, 165, 166, 167, 168, 169] (by decide +kernel) (by decide +kernel)
set_option maxRecDepth 20000 in
theorem gX5_run_X5_holds : GoodIn wsX5_run (wsV RX5 100 RX5 yX5_holds wsX5_holds) := goodIn_app (goodIn_of _ (by decide +kernel)) ggX5_run_X5_holds
set_option maxRecDepth 20000 in
theorem ggX5_run_X5_save : GoodIn wsX5_run wsX5_save := goodIn_r _ [44, 45, 46, 47, 48, 6, 49, 50, 152, 153, 154, 155, 156, 157, 158, 159, 160, 161, 162, 163, 164, 165, 166, 167, 168, 169] (by decide +kernel) (by decide +kernel)
set_option maxRecDepth 20000 in
theorem gX5_run_X5_save : GoodIn wsX5_run (wsV RX5 97 RX5 yX5_save wsX5_save) := goodIn_app (goodIn_of _ (by decide +kernel)) ggX5_run_X5_save
set_option maxRecDepth 20000 in
theorem ggX5_run_X5_readsPart : GoodIn wsX5_run wsX5_readsPart := goodIn_r _ [11, 12, 13, 14, 15, 16, 17, 18, 6, 19, 1, 2, 20, 21, 22, 23, 24, 25, 26, 27, 28, 29, 30, 31, 32, 33, 34, 35, 152, 153, 154, 155, 156, 157, 158, 159, 160, 161, 162, 163, 164, 165, 166, 167, 168, 169] (by decide +kernel) (by decide +kernel)
set_option maxRecDepth 20000 in
theorem gX5_run_X5_readsPart : GoodIn wsX5_run (wsV RX5 167 RX5 yX5_readsPart wsX5_readsPart) := goodIn_app (goodIn_of _ (by decide +kernel)) ggX5_run_X5_readsPart
set_option maxRecDepth 20000 in
theorem ggX5_run_X5_isDone : GoodIn wsX5_run wsX5_isDone := goodIn_r _ [54, 12, 13, 14, 15, 50, 55, 56, 57, 6, 58, 59, 60, 61, 62, 63, 64, 65, 66, 67, 68, 69, 70, 71, 72, 73, 74, 75, 76, 77, 78, 79, 80, 81, 82, 83, 84, 85, 86, 87, 88, 89, 90, 91, 92, 93, 94, 95, 96, 97, 98, 99, 100, 101, 102, 103, 104, 105, 106, 107, 108, 109, 110, 111, 112, 113, 114, 115, 116, 117, 118, 119, 120, 121, 122, 123, 124, 125, 126, 127, 128, 129, 130, 131, 132, 133, 134, 135, 136, 137, 138, 139, 140, 141, 142, 143, 144, 145, 146, 147, 33, 34, 35, 148, 149, 150, 151, 152, 153, 154, 155, 156, 157, 158, 159, 160, 161, 162, 163, 164, 165, 166, 167, 168, 169] (by decide +kernel) (by decide +kernel)
set_option maxRecDepth 20000 in
theorem gX5_run_X5_isDone : GoodIn wsX5_run (wsV RX5 174 RX5 yX5_isDone wsX5_isDone) := goodIn_app (goodIn_of _ (by decide +kernel)) ggX5_run_X5_isDone
set_option maxRecDepth 20000 in
theorem ggX5_run_X5_takes : GoodIn wsX5_run wsX5_takes := goodIn_r _ [24, 1, 16, 17, 18, 6, 19, 2, 20, 152, 153, 154, 155, 156, 157, 158, 159, 160, 161, 162, 163, 164, 165, 166, 167, 168, 169] (by decide +kernel) (by decide +kernel)
set_option maxRecDepth 20000 in
theorem gX5_run_X5_takes : GoodIn wsX5_run (wsV RX5 152 RX5 yX5_takes wsX5_takes) := goodIn_app (goodIn_of _ (by decide +kernel)) ggX5_run_X5_takes
theorem dX5_run_0 : decode cX5_run 0 = .ok (.aload_n 0, 1) := by decide +kernel
theorem dX5_run_1 : decode cX5_run 1 = .ok (.aload_n 0, 1) := by decide +kernel
theorem dX5_run_2 : decode cX5_run 2 = .ok (.invokevirtual 171, 3) := by decide +kernel
theorem dX5_run_5 : decode cX5_run 5 = .ok (.ifCond .eq 7, 3) := by decide +kernel
theorem dX5_run_8 : decode cX5_run 8 = .ok (.iconst 0, 1) := by decide +kernel
theorem dX5_run_9 : decode cX5_run 9 = .ok (.goto 4, 3) := by decide +kernel
theorem dX5_run_12 : decode cX5_run 12 = .ok (.iconst 1, 1) := by decide +kernel
theorem dX5_run_13 : decode cX5_run 13 = .ok (.invokevirtual 100, 3) := by decide +kernel
theorem dX5_run_16 : decode cX5_run 16 = .ok (.ifCond .ne 5, 3) := by decide +kernel
theorem dX5_run_19 : decode cX5_run 19 = .ok (.iconst 0, 1) := by decide +kernel
theorem dX5_run_20 : decode cX5_run 20 = .ok (.ireturn, 1) := by decide +kernel
theorem dX5_run_21 : decode cX5_run 21 = .ok (.aload_n 0, 1) := by decide +kernel
theorem dX5_run_22 : decode cX5_run 22 = .ok (.invokevirtual 97, 3) := by decide +kernel
theorem dX5_run_25 : decode cX5_run 25 = .ok (.aload_n 0, 1) := by decide +kernel
theorem dX5_run_26 : decode cX5_run 26 = .ok (.iconst 0, 1) := by decide +kernel
theorem dX5_run_27 : decode cX5_run 27 = .ok (.putfield 140, 3) := by decide +kernel
theorem dX5_run_30 : decode cX5_run 30 = .ok (.iconst 0, 1) := by decide +kernel
theorem dX5_run_31 : decode cX5_run 31 = .ok (.istore_n 1, 1) := by decide +kernel
theorem dX5_run_32 : decode cX5_run 32 = .ok (.aload_n 0, 1) := by decide +kernel
theorem dX5_run_33 : decode cX5_run 33 = .ok (.invokevirtual 167, 3) := by decide +kernel
theorem dX5_run_36 : decode cX5_run 36 = .ok (.ifCond .eq 23, 3) := by decide +kernel
theorem dX5_run_39 : decode cX5_run 39 = .ok (.aload_n 0, 1) := by decide +kernel
theorem dX5_run_40 : decode cX5_run 40 = .ok (.invokevirtual 174, 3) := by decide +kernel
theorem dX5_run_43 : decode cX5_run 43 = .ok (.ifCond .eq 16, 3) := by decide +kernel
theorem dX5_run_46 : decode cX5_run 46 = .ok (.iinc 1 1, 3) := by decide +kernel
theorem dX5_run_49 : decode cX5_run 49 = .ok (.aload_n 0, 1) := by decide +kernel
theorem dX5_run_50 : decode cX5_run 50 = .ok (.bipush 59, 2) := by decide +kernel
theorem dX5_run_52 : decode cX5_run 52 = .ok (.invokevirtual 152, 3) := by decide +kernel
theorem dX5_run_55 : decode cX5_run 55 = .ok (.pop, 1) := by decide +kernel
theorem dX5_run_56 : decode cX5_run 56 = .ok (.goto (-24), 3) := by decide +kernel
theorem dX5_run_59 : decode cX5_run 59 = .ok (.aload_n 0, 1) := by decide +kernel
theorem dX5_run_60 : decode cX5_run 60 = .ok (.iconst 0, 1) := by decide +kernel
theorem dX5_run_61 : decode cX5_run 61 = .ok (.putfield 137, 3) := by decide +kernel
theorem dX5_run_64 : decode cX5_run 64 = .ok (.iload_n 1, 1) := by decide +kernel
theorem dX5_run_65 : decode cX5_run 65 = .ok (.ireturn, 1) := by decide +kernel
set_option maxRecDepth 20000 in
theorem ggX5_keep_X5_copies : GoodIn wsX5_keep wsX5_copies := goodIn_r _ [8, 3, 9, 10, 11, 12, 13, 14, 15, 16, 17, 18, 19, 20, 21, 22, 23, 24, 25, 26] (by decide +kernel) (by decide +kernel)
set_option maxRecDepth 20000 in
theorem gX5_keep_X5_copies : GoodIn wsX5_keep (wsV RX5 94 RX5 yX5_copies wsX5_copies) := goodIn_app (goodIn_of _ (by decide +kernel)) ggX5_keep_X5_copies
theorem dX5_keep_0 : decode cX5_keep 0 = .ok (.aload_n 0, 1) := by decide +kernel
theorem dX5_keep_1 : decode cX5_keep 1 = .ok (.iconst 0, 1) := by decide +kernel
theorem dX5_keep_2 : decode cX5_keep 2 = .ok (.putfield 29, 3) := by decide +kernel
theorem dX5_keep_5 : decode cX5_keep 5 = .ok (.aload_n 0, 1) := by decide +kernel
theorem dX5_keep_6 : decode cX5_keep 6 = .ok (.iconst 0, 1) := by decide +kernel
theorem dX5_keep_7 : decode cX5_keep 7 = .ok (.bipush 7, 2) := by decide +kernel
theorem dX5_keep_9 : decode cX5_keep 9 = .ok (.invokevirtual 94, 3) := by decide +kernel
theorem dX5_keep_12 : decode cX5_keep 12 = .ok (.aload_n 0, 1) := by decide +kernel
theorem dX5_keep_13 : decode cX5_keep 13 = .ok (.iconst 1, 1) := by decide +kernel
theorem dX5_keep_14 : decode cX5_keep 14 = .ok (.putfield 177, 3) := by decide +kernel
theorem dX5_keep_17 : decode cX5_keep 17 = .ok (.aload_n 0, 1) := by decide +kernel
theorem dX5_keep_18 : decode cX5_keep 18 = .ok (.getfield 7, 3) := by decide +kernel
theorem dX5_keep_21 : decode cX5_keep 21 = .ok (.iconst 3, 1) := by decide +kernel
theorem dX5_keep_22 : decode cX5_keep 22 = .ok (.iaload, 1) := by decide +kernel
theorem dX5_keep_23 : decode cX5_keep 23 = .ok (.ireturn, 1) := by decide +kernel
set_option maxRecDepth 20000 in
theorem ggX5_goBack_X5_holds : GoodIn wsX5_goBack wsX5_holds := goodIn_r _ [7, 8, 18, 19, 20, 21, 22, 23, 24, 25, 26, 27, 28, 29, 30, 31, 32, 33, 34, 35] (by decide +kernel) (by decide +kernel)
set_option maxRecDepth 20000 in
theorem gX5_goBack_X5_holds : GoodIn wsX5_goBack (wsV RX5 100 RX5 yX5_holds wsX5_holds) := goodIn_app (goodIn_of _ (by decide +kernel)) ggX5_goBack_X5_holds
set_option maxRecDepth 20000 in
theorem ggX5_goBack_X5_save : GoodIn wsX5_goBack wsX5_save := goodIn_r _ [12, 13, 14, 15, 16, 6, 17, 2, 18, 19, 20, 21, 22, 23, 24, 25, 26, 27, 28, 29, 30, 31, 32, 33, 34, 35] (by decide +kernel) (by decide +kernel)
set_option maxRecDepth 20000 in
theorem gX5_goBack_X5_save : GoodIn wsX5_goBack (wsV RX5 97 RX5 yX5_save wsX5_save) := goodIn_app (goodIn_of _ (by decide +kernel)) ggX5_goBack_X5_save
set_option maxRecDepth 20000 in
theorem ggX5_goBack_X5_copies : GoodIn wsX5_goBack wsX5_copies := goodIn_r _ [17, 2, 18, 19, 20, 21, 22, 23, 24, 25, 26, 27, 28, 29, 30, 31, 32, 33, 34, 35] (by decide +kernel) (by decide +kernel)
set_option maxRecDepth 20000 in
theorem gX5_goBack_X5_copies : GoodIn wsX5_goBack (wsV RX5 94 RX5 yX5_copies wsX5_copies) := goodIn_app (goodIn_of _ (by decide +kernel)) ggX5_goBack_X5_copies
theorem dX5_goBack_0 : decode cX5_goBack 0 = .ok (.aload_n 0, 1) := by decide +kernel
theorem dX5_goBack_1 : decode cX5_goBack 1 = .ok (.aload_n 0, 1) := by decide +kernel
theorem dX5_goBack_2 : decode cX5_goBack 2 = .ok (.getfield 177, 3) := by decide +kernel
theorem dX5_goBack_5 : decode cX5_goBack 5 = .ok (.ifCond .eq 7, 3) := by decide +kernel
theorem dX5_goBack_8 : decode cX5_goBack 8 = .ok (.iconst 0, 1) := by decide +kernel
theorem dX5_goBack_9 : decode cX5_goBack 9 = .ok (.goto 4, 3) := by decide +kernel
theorem dX5_goBack_12 : decode cX5_goBack 12 = .ok (.iconst 1, 1) := by decide +kernel
theorem dX5_goBack_13 : decode cX5_goBack 13 = .ok (.invokevirtual 100, 3) := by decide +kernel
theorem dX5_goBack_16 : decode cX5_goBack 16 = .ok (.ifCond .ne 5, 3) := by decide +kernel
theorem dX5_goBack_19 : decode cX5_goBack 19 = .ok (.iconst 0, 1) := by decide +kernel
theorem dX5_goBack_20 : decode cX5_goBack 20 = .ok (.ireturn, 1) := by decide +kernel
theorem dX5_goBack_21 : decode cX5_goBack 21 = .ok (.aload_n 0, 1) := by decide +kernel
theorem dX5_goBack_22 : decode cX5_goBack 22 = .ok (.invokevirtual 97, 3) := by decide +kernel
theorem dX5_goBack_25 : decode cX5_goBack 25 = .ok (.aload_n 0, 1) := by decide +kernel
theorem dX5_goBack_26 : decode cX5_goBack 26 = .ok (.bipush 7, 2) := by decide +kernel
theorem dX5_goBack_28 : decode cX5_goBack 28 = .ok (.iconst 0, 1) := by decide +kernel
theorem dX5_goBack_29 : decode cX5_goBack 29 = .ok (.invokevirtual 94, 3) := by decide +kernel
theorem dX5_goBack_32 : decode cX5_goBack 32 = .ok (.aload_n 0, 1) := by decide +kernel
theorem dX5_goBack_33 : decode cX5_goBack 33 = .ok (.getfield 7, 3) := by decide +kernel
theorem dX5_goBack_36 : decode cX5_goBack 36 = .ok (.iconst 3, 1) := by decide +kernel
theorem dX5_goBack_37 : decode cX5_goBack 37 = .ok (.iaload, 1) := by decide +kernel
theorem dX5_goBack_38 : decode cX5_goBack 38 = .ok (.ireturn, 1) := by decide +kernel
set_option maxRecDepth 20000 in
theorem ggX5_undo_X5_holds : GoodIn wsX5_undo wsX5_holds := goodIn_r _ [6, 7, 13, 14, 15, 16, 17, 18, 19, 20, 21, 22, 23, 24, 25, 26, 27, 28, 29, 30] (by decide +kernel) (by decide +kernel)
set_option maxRecDepth 20000 in
theorem gX5_undo_X5_holds : GoodIn wsX5_undo (wsV RX5 100 RX5 yX5_holds wsX5_holds) := goodIn_app (goodIn_of _ (by decide +kernel)) ggX5_undo_X5_holds
set_option maxRecDepth 20000 in
theorem ggX5_undo_X5_copies : GoodIn wsX5_undo wsX5_copies := goodIn_r _ [11, 12, 13, 14, 15, 16, 17, 18, 19, 20, 21, 22, 23, 24, 25, 26, 27, 28, 29, 30] (by decide +kernel) (by decide +kernel)
set_option maxRecDepth 20000 in
theorem gX5_undo_X5_copies : GoodIn wsX5_undo (wsV RX5 94 RX5 yX5_copies wsX5_copies) := goodIn_app (goodIn_of _ (by decide +kernel)) ggX5_undo_X5_copies
theorem dX5_undo_0 : decode cX5_undo 0 = .ok (.aload_n 0, 1) := by decide +kernel
theorem dX5_undo_1 : decode cX5_undo 1 = .ok (.aload_n 0, 1) := by decide +kernel
theorem dX5_undo_2 : decode cX5_undo 2 = .ok (.getfield 91, 3) := by decide +kernel
theorem dX5_undo_5 : decode cX5_undo 5 = .ok (.ifCond .le 7, 3) := by decide +kernel
theorem dX5_undo_8 : decode cX5_undo 8 = .ok (.iconst 0, 1) := by decide +kernel
theorem dX5_undo_9 : decode cX5_undo 9 = .ok (.goto 4, 3) := by decide +kernel
theorem dX5_undo_12 : decode cX5_undo 12 = .ok (.iconst 1, 1) := by decide +kernel
theorem dX5_undo_13 : decode cX5_undo 13 = .ok (.invokevirtual 100, 3) := by decide +kernel
theorem dX5_undo_16 : decode cX5_undo 16 = .ok (.ifCond .ne 5, 3) := by decide +kernel
theorem dX5_undo_19 : decode cX5_undo 19 = .ok (.iconst 0, 1) := by decide +kernel
theorem dX5_undo_20 : decode cX5_undo 20 = .ok (.ireturn, 1) := by decide +kernel
theorem dX5_undo_21 : decode cX5_undo 21 = .ok (.aload_n 0, 1) := by decide +kernel
theorem dX5_undo_22 : decode cX5_undo 22 = .ok (.aload_n 0, 1) := by decide +kernel
theorem dX5_undo_23 : decode cX5_undo 23 = .ok (.getfield 91, 3) := by decide +kernel
theorem dX5_undo_26 : decode cX5_undo 26 = .ok (.iconst 0, 1) := by decide +kernel
theorem dX5_undo_27 : decode cX5_undo 27 = .ok (.invokevirtual 94, 3) := by decide +kernel
theorem dX5_undo_30 : decode cX5_undo 30 = .ok (.aload_n 0, 1) := by decide +kernel
theorem dX5_undo_31 : decode cX5_undo 31 = .ok (.dup, 1) := by decide +kernel
theorem dX5_undo_32 : decode cX5_undo 32 = .ok (.getfield 91, 3) := by decide +kernel
theorem dX5_undo_35 : decode cX5_undo 35 = .ok (.iconst 1, 1) := by decide +kernel
theorem dX5_undo_36 : decode cX5_undo 36 = .ok (.isub, 1) := by decide +kernel
theorem dX5_undo_37 : decode cX5_undo 37 = .ok (.putfield 91, 3) := by decide +kernel
theorem dX5_undo_40 : decode cX5_undo 40 = .ok (.aload_n 0, 1) := by decide +kernel
theorem dX5_undo_41 : decode cX5_undo 41 = .ok (.getfield 91, 3) := by decide +kernel
theorem dX5_undo_44 : decode cX5_undo 44 = .ok (.ireturn, 1) := by decide +kernel
set_option maxRecDepth 20000 in
theorem ggX5_bids_X5_isBid : GoodIn wsX5_bids wsX5_isBid := goodIn_r _ [5, 6, 7, 8, 9, 4, 10, 11, 12, 13, 14, 15, 16, 17, 18, 19, 20, 21, 22, 23, 24, 25, 26, 27, 28] (by decide +kernel) (by decide +kernel)
set_option maxRecDepth 20000 in
theorem gX5_bids_X5_isBid : GoodIn wsX5_bids (wsV RX5 46 RX5 yX5_isBid wsX5_isBid) := goodIn_app (goodIn_of _ (by decide +kernel)) ggX5_bids_X5_isBid
theorem dX5_bids_0 : decode cX5_bids 0 = .ok (.iconst 0, 1) := by decide +kernel
theorem dX5_bids_1 : decode cX5_bids 1 = .ok (.istore_n 3, 1) := by decide +kernel
theorem dX5_bids_2 : decode cX5_bids 2 = .ok (.iconst 0, 1) := by decide +kernel
theorem dX5_bids_3 : decode cX5_bids 3 = .ok (.istore 4, 2) := by decide +kernel
theorem dX5_bids_5 : decode cX5_bids 5 = .ok (.iload 4, 2) := by decide +kernel
theorem dX5_bids_7 : decode cX5_bids 7 = .ok (.bipush 6, 2) := by decide +kernel
theorem dX5_bids_9 : decode cX5_bids 9 = .ok (.if_icmp .ge 45, 3) := by decide +kernel
theorem dX5_bids_12 : decode cX5_bids 12 = .ok (.iload_n 2, 1) := by decide +kernel
theorem dX5_bids_13 : decode cX5_bids 13 = .ok (.ifCond .eq 13, 3) := by decide +kernel
theorem dX5_bids_16 : decode cX5_bids 16 = .ok (.aload_n 0, 1) := by decide +kernel
theorem dX5_bids_17 : decode cX5_bids 17 = .ok (.iload_n 1, 1) := by decide +kernel
theorem dX5_bids_18 : decode cX5_bids 18 = .ok (.iload 4, 2) := by decide +kernel
theorem dX5_bids_20 : decode cX5_bids 20 = .ok (.invokevirtual 46, 3) := by decide +kernel
theorem dX5_bids_23 : decode cX5_bids 23 = .ok (.goto 10, 3) := by decide +kernel
theorem dX5_bids_26 : decode cX5_bids 26 = .ok (.aload_n 0, 1) := by decide +kernel
theorem dX5_bids_27 : decode cX5_bids 27 = .ok (.iload 4, 2) := by decide +kernel
theorem dX5_bids_29 : decode cX5_bids 29 = .ok (.iload_n 1, 1) := by decide +kernel
theorem dX5_bids_30 : decode cX5_bids 30 = .ok (.invokevirtual 46, 3) := by decide +kernel
theorem dX5_bids_33 : decode cX5_bids 33 = .ok (.istore 5, 2) := by decide +kernel
theorem dX5_bids_35 : decode cX5_bids 35 = .ok (.iload_n 3, 1) := by decide +kernel
theorem dX5_bids_36 : decode cX5_bids 36 = .ok (.iload 5, 2) := by decide +kernel
theorem dX5_bids_38 : decode cX5_bids 38 = .ok (.ifCond .eq 7, 3) := by decide +kernel
theorem dX5_bids_41 : decode cX5_bids 41 = .ok (.iconst 1, 1) := by decide +kernel
theorem dX5_bids_42 : decode cX5_bids 42 = .ok (.goto 4, 3) := by decide +kernel
theorem dX5_bids_45 : decode cX5_bids 45 = .ok (.iconst 0, 1) := by decide +kernel
theorem dX5_bids_46 : decode cX5_bids 46 = .ok (.iadd, 1) := by decide +kernel
theorem dX5_bids_47 : decode cX5_bids 47 = .ok (.istore_n 3, 1) := by decide +kernel
theorem dX5_bids_48 : decode cX5_bids 48 = .ok (.iinc 4 1, 3) := by decide +kernel
theorem dX5_bids_51 : decode cX5_bids 51 = .ok (.goto (-46), 3) := by decide +kernel
theorem dX5_bids_54 : decode cX5_bids 54 = .ok (.iload_n 3, 1) := by decide +kernel
theorem dX5_bids_55 : decode cX5_bids 55 = .ok (.ireturn, 1) := by decide +kernel
set_option maxRecDepth 20000 in
theorem ggX5_ofSpot_X5_of : GoodIn wsX5_ofSpot wsX5_of := goodIn_r _ [5, 6, 19, 20, 21, 22, 23, 24, 25, 26, 27, 28, 29, 30, 31, 32, 33, 34, 35, 36] (by decide +kernel) (by decide +kernel)
set_option maxRecDepth 20000 in
theorem gX5_ofSpot_X5_of : GoodIn wsX5_ofSpot (wsV RX5 53 RX5 yX5_of wsX5_of) := goodIn_app (goodIn_of _ (by decide +kernel)) ggX5_ofSpot_X5_of
set_option maxRecDepth 20000 in
theorem ggX5_ofSpot_X5_bids : GoodIn wsX5_ofSpot wsX5_bids := goodIn_r _ [10, 11, 12, 13, 4, 14, 6, 15, 16, 17, 18, 19, 20, 21, 22, 23, 24, 25, 26, 27, 28, 29, 30, 31, 32, 33, 34, 35, 36] (by decide +kernel) (by decide +kernel)
set_option maxRecDepth 20000 in
theorem gX5_ofSpot_X5_bids : GoodIn wsX5_ofSpot (wsV RX5 181 RX5 yX5_bids wsX5_bids) := goodIn_app (goodIn_of _ (by decide +kernel)) ggX5_ofSpot_X5_bids
theorem dX5_ofSpot_0 : decode cX5_ofSpot 0 = .ok (.iload_n 2, 1) := by decide +kernel
theorem dX5_ofSpot_1 : decode cX5_ofSpot 1 = .ok (.iconst 4, 1) := by decide +kernel
theorem dX5_ofSpot_2 : decode cX5_ofSpot 2 = .ok (.if_icmp .ge 12, 3) := by decide +kernel
theorem dX5_ofSpot_5 : decode cX5_ofSpot 5 = .ok (.aload_n 0, 1) := by decide +kernel
theorem dX5_ofSpot_6 : decode cX5_ofSpot 6 = .ok (.iload_n 1, 1) := by decide +kernel
theorem dX5_ofSpot_7 : decode cX5_ofSpot 7 = .ok (.iload_n 2, 1) := by decide +kernel
theorem dX5_ofSpot_8 : decode cX5_ofSpot 8 = .ok (.invokevirtual 53, 3) := by decide +kernel
theorem dX5_ofSpot_11 : decode cX5_ofSpot 11 = .ok (.goto 23, 3) := by decide +kernel
theorem dX5_ofSpot_14 : decode cX5_ofSpot 14 = .ok (.iload_n 2, 1) := by decide +kernel
theorem dX5_ofSpot_15 : decode cX5_ofSpot 15 = .ok (.iconst 4, 1) := by decide +kernel
theorem dX5_ofSpot_16 : decode cX5_ofSpot 16 = .ok (.if_icmp .ne 12, 3) := by decide +kernel
theorem dX5_ofSpot_19 : decode cX5_ofSpot 19 = .ok (.aload_n 0, 1) := by decide +kernel
theorem dX5_ofSpot_20 : decode cX5_ofSpot 20 = .ok (.iload_n 1, 1) := by decide +kernel
theorem dX5_ofSpot_21 : decode cX5_ofSpot 21 = .ok (.iconst 0, 1) := by decide +kernel
theorem dX5_ofSpot_22 : decode cX5_ofSpot 22 = .ok (.invokevirtual 181, 3) := by decide +kernel
theorem dX5_ofSpot_25 : decode cX5_ofSpot 25 = .ok (.goto 9, 3) := by decide +kernel
theorem dX5_ofSpot_28 : decode cX5_ofSpot 28 = .ok (.aload_n 0, 1) := by decide +kernel
theorem dX5_ofSpot_29 : decode cX5_ofSpot 29 = .ok (.iload_n 1, 1) := by decide +kernel
theorem dX5_ofSpot_30 : decode cX5_ofSpot 30 = .ok (.iconst 4, 1) := by decide +kernel
theorem dX5_ofSpot_31 : decode cX5_ofSpot 31 = .ok (.invokevirtual 53, 3) := by decide +kernel
theorem dX5_ofSpot_34 : decode cX5_ofSpot 34 = .ok (.ireturn, 1) := by decide +kernel
set_option maxRecDepth 20000 in
theorem ggX5_spot_X5_isOne : GoodIn wsX5_spot wsX5_isOne := goodIn_r _ [4, 5, 6, 3, 7] (by decide +kernel) (by decide +kernel)
set_option maxRecDepth 20000 in
theorem gX5_spot_X5_isOne : GoodIn wsX5_spot (va_wsS RX5 83 yX5_isOne wsX5_isOne) := goodIn_app (goodIn_of _ (by decide +kernel)) ggX5_spot_X5_isOne
set_option maxRecDepth 20000 in
theorem ggX5_spot_X5_in : GoodIn wsX5_spot wsX5_in := goodIn_r _ [7] (by decide +kernel) (by decide +kernel)
set_option maxRecDepth 20000 in
theorem gX5_spot_X5_in : GoodIn wsX5_spot (va_wsS RX5 32 yX5_in wsX5_in) := goodIn_app (goodIn_of _ (by decide +kernel)) ggX5_spot_X5_in
set_option maxRecDepth 20000 in
theorem ggX5_spot_X5_holds : GoodIn wsX5_spot wsX5_holds := goodIn_r _ [11, 12, 34, 35, 36, 37, 38, 39, 40, 41, 42, 43, 44, 45, 46, 47, 48, 49, 50, 51] (by decide +kernel) (by decide +kernel)
set_option maxRecDepth 20000 in
theorem gX5_spot_X5_holds : GoodIn wsX5_spot (wsV RX5 100 RX5 yX5_holds wsX5_holds) := goodIn_app (goodIn_of _ (by decide +kernel)) ggX5_spot_X5_holds
set_option maxRecDepth 20000 in
theorem ggX5_spot_X5_ofSpot : GoodIn wsX5_spot wsX5_ofSpot := goodIn_r _ [16, 17, 18, 19, 3, 20, 21, 22, 23, 24, 25, 26, 27, 28, 29, 30, 31, 32, 33, 34, 35, 36, 37, 38, 39, 40, 41, 42, 43, 44, 45, 46, 47, 48, 49, 50, 51] (by decide +kernel) (by decide +kernel)
set_option maxRecDepth 20000 in
theorem gX5_spot_X5_ofSpot : GoodIn wsX5_spot (wsV RX5 185 RX5 yX5_ofSpot wsX5_ofSpot) := goodIn_app (goodIn_of _ (by decide +kernel)) ggX5_spot_X5_ofSpot
theorem dX5_spot_0 : decode cX5_spot 0 = .ok (.aload_n 0, 1) := by decide +kernel
theorem dX5_spot_1 : decode cX5_spot 1 = .ok (.iload_n 1, 1) := by decide +kernel
theorem dX5_spot_2 : decode cX5_spot 2 = .ok (.invokestatic 83, 3) := by decide +kernel
theorem dX5_spot_5 : decode cX5_spot 5 = .ok (.ifCond .ne 7, 3) := by decide +kernel
theorem dX5_spot_8 : decode cX5_spot 8 = .ok (.iconst 1, 1) := by decide +kernel
theorem dX5_spot_9 : decode cX5_spot 9 = .ok (.goto 17, 3) := by decide +kernel
theorem dX5_spot_12 : decode cX5_spot 12 = .ok (.iload_n 2, 1) := by decide +kernel
theorem dX5_spot_13 : decode cX5_spot 13 = .ok (.iconst 0, 1) := by decide +kernel
theorem dX5_spot_14 : decode cX5_spot 14 = .ok (.iconst 5, 1) := by decide +kernel
theorem dX5_spot_15 : decode cX5_spot 15 = .ok (.invokestatic 32, 3) := by decide +kernel
theorem dX5_spot_18 : decode cX5_spot 18 = .ok (.ifCond .ne 7, 3) := by decide +kernel
theorem dX5_spot_21 : decode cX5_spot 21 = .ok (.iconst 2, 1) := by decide +kernel
theorem dX5_spot_22 : decode cX5_spot 22 = .ok (.goto 4, 3) := by decide +kernel
theorem dX5_spot_25 : decode cX5_spot 25 = .ok (.iconst 0, 1) := by decide +kernel
theorem dX5_spot_26 : decode cX5_spot 26 = .ok (.invokevirtual 100, 3) := by decide +kernel
theorem dX5_spot_29 : decode cX5_spot 29 = .ok (.ifCond .eq 12, 3) := by decide +kernel
theorem dX5_spot_32 : decode cX5_spot 32 = .ok (.aload_n 0, 1) := by decide +kernel
theorem dX5_spot_33 : decode cX5_spot 33 = .ok (.iload_n 1, 1) := by decide +kernel
theorem dX5_spot_34 : decode cX5_spot 34 = .ok (.iload_n 2, 1) := by decide +kernel
theorem dX5_spot_35 : decode cX5_spot 35 = .ok (.invokevirtual 185, 3) := by decide +kernel
theorem dX5_spot_38 : decode cX5_spot 38 = .ok (.goto 4, 3) := by decide +kernel
theorem dX5_spot_41 : decode cX5_spot 41 = .ok (.iconst 0, 1) := by decide +kernel
theorem dX5_spot_42 : decode cX5_spot 42 = .ok (.ireturn, 1) := by decide +kernel
set_option maxRecDepth 20000 in
theorem ggX5_spotOf_X5_of : GoodIn wsX5_spotOf wsX5_of := goodIn_r _ [5, 6, 7, 8, 9, 10, 11, 12, 13, 14, 15, 16, 17, 18, 19, 20, 21, 22, 23, 24] (by decide +kernel) (by decide +kernel)
set_option maxRecDepth 20000 in
theorem gX5_spotOf_X5_of : GoodIn wsX5_spotOf (wsV RX5 53 RX5 yX5_of wsX5_of) := goodIn_app (goodIn_of _ (by decide +kernel)) ggX5_spotOf_X5_of
theorem dX5_spotOf_0 : decode cX5_spotOf 0 = .ok (.iconst 0, 1) := by decide +kernel
theorem dX5_spotOf_1 : decode cX5_spotOf 1 = .ok (.istore_n 2, 1) := by decide +kernel
theorem dX5_spotOf_2 : decode cX5_spotOf 2 = .ok (.iload_n 2, 1) := by decide +kernel
theorem dX5_spotOf_3 : decode cX5_spotOf 3 = .ok (.bipush 6, 2) := by decide +kernel
theorem dX5_spotOf_5 : decode cX5_spotOf 5 = .ok (.if_icmp .ge 21, 3) := by decide +kernel
theorem dX5_spotOf_8 : decode cX5_spotOf 8 = .ok (.aload_n 0, 1) := by decide +kernel
theorem dX5_spotOf_9 : decode cX5_spotOf 9 = .ok (.iload_n 2, 1) := by decide +kernel
theorem dX5_spotOf_10 : decode cX5_spotOf 10 = .ok (.iconst 2, 1) := by decide +kernel
theorem dX5_spotOf_11 : decode cX5_spotOf 11 = .ok (.invokevirtual 53, 3) := by decide +kernel
theorem dX5_spotOf_14 : decode cX5_spotOf 14 = .ok (.iload_n 1, 1) := by decide +kernel
theorem dX5_spotOf_15 : decode cX5_spotOf 15 = .ok (.if_icmp .ne 5, 3) := by decide +kernel
theorem dX5_spotOf_18 : decode cX5_spotOf 18 = .ok (.iload_n 2, 1) := by decide +kernel
theorem dX5_spotOf_19 : decode cX5_spotOf 19 = .ok (.ireturn, 1) := by decide +kernel
theorem dX5_spotOf_20 : decode cX5_spotOf 20 = .ok (.iinc 2 1, 3) := by decide +kernel
theorem dX5_spotOf_23 : decode cX5_spotOf 23 = .ok (.goto (-21), 3) := by decide +kernel
theorem dX5_spotOf_26 : decode cX5_spotOf 26 = .ok (.iconst (-1), 1) := by decide +kernel
theorem dX5_spotOf_27 : decode cX5_spotOf 27 = .ok (.ireturn, 1) := by decide +kernel
set_option maxRecDepth 20000 in
theorem ggX5_ofBidder_X5_bids : GoodIn wsX5_ofBidder wsX5_bids := goodIn_r _ [5, 6, 7, 8, 4, 9, 10, 11, 12, 13, 14, 27, 28, 29, 30, 31, 32, 33, 34, 35, 36, 37, 38, 39, 40, 41, 42, 43, 44] (by decide +kernel) (by decide +kernel)
set_option maxRecDepth 20000 in
theorem gX5_ofBidder_X5_bids : GoodIn wsX5_ofBidder (wsV RX5 181 RX5 yX5_bids wsX5_bids) := goodIn_app (goodIn_of _ (by decide +kernel)) ggX5_ofBidder_X5_bids
set_option maxRecDepth 20000 in
theorem ggX5_ofBidder_X5_spotOf : GoodIn wsX5_ofBidder wsX5_spotOf := goodIn_r _ [18, 19, 20, 21, 4, 22, 10, 27, 28, 29, 30, 31, 32, 33, 34, 35, 36, 37, 38, 39, 40, 41, 42, 43, 44] (by decide +kernel) (by decide +kernel)
set_option maxRecDepth 20000 in
theorem gX5_ofBidder_X5_spotOf : GoodIn wsX5_ofBidder (wsV RX5 188 RX5 yX5_spotOf wsX5_spotOf) := goodIn_app (goodIn_of _ (by decide +kernel)) ggX5_ofBidder_X5_spotOf
set_option maxRecDepth 20000 in
theorem ggX5_ofBidder_X5_has : GoodIn wsX5_ofBidder wsX5_has := goodIn_r _ [26, 10, 27, 28, 29, 30, 31, 32, 33, 34, 35, 36, 37, 38, 39, 40, 41, 42, 43, 44] (by decide +kernel) (by decide +kernel)
set_option maxRecDepth 20000 in
theorem gX5_ofBidder_X5_has : GoodIn wsX5_ofBidder (wsV RX5 56 RX5 yX5_has wsX5_has) := goodIn_app (goodIn_of _ (by decide +kernel)) ggX5_ofBidder_X5_has
theorem dX5_ofBidder_0 : decode cX5_ofBidder 0 = .ok (.iload_n 2, 1) := by decide +kernel
theorem dX5_ofBidder_1 : decode cX5_ofBidder 1 = .ok (.tableswitch 53 2 5 #[31, 38, 44, 44], 31) := by decide +kernel
theorem dX5_ofBidder_32 : decode cX5_ofBidder 32 = .ok (.aload_n 0, 1) := by decide +kernel
theorem dX5_ofBidder_33 : decode cX5_ofBidder 33 = .ok (.iload_n 1, 1) := by decide +kernel
theorem dX5_ofBidder_34 : decode cX5_ofBidder 34 = .ok (.iconst 1, 1) := by decide +kernel
theorem dX5_ofBidder_35 : decode cX5_ofBidder 35 = .ok (.invokevirtual 181, 3) := by decide +kernel
theorem dX5_ofBidder_38 : decode cX5_ofBidder 38 = .ok (.ireturn, 1) := by decide +kernel
theorem dX5_ofBidder_39 : decode cX5_ofBidder 39 = .ok (.aload_n 0, 1) := by decide +kernel
theorem dX5_ofBidder_40 : decode cX5_ofBidder 40 = .ok (.iload_n 1, 1) := by decide +kernel
theorem dX5_ofBidder_41 : decode cX5_ofBidder 41 = .ok (.invokevirtual 188, 3) := by decide +kernel
theorem dX5_ofBidder_44 : decode cX5_ofBidder 44 = .ok (.ireturn, 1) := by decide +kernel
theorem dX5_ofBidder_45 : decode cX5_ofBidder 45 = .ok (.aload_n 0, 1) := by decide +kernel
theorem dX5_ofBidder_46 : decode cX5_ofBidder 46 = .ok (.iload_n 1, 1) := by decide +kernel
theorem dX5_ofBidder_47 : decode cX5_ofBidder 47 = .ok (.iload_n 2, 1) := by decide +kernel
theorem dX5_ofBidder_48 : decode cX5_ofBidder 48 = .ok (.iconst 2, 1) := by decide +kernel
theorem dX5_ofBidder_49 : decode cX5_ofBidder 49 = .ok (.isub, 1) := by decide +kernel
theorem dX5_ofBidder_50 : decode cX5_ofBidder 50 = .ok (.invokevirtual 56, 3) := by decide +kernel
theorem dX5_ofBidder_53 : decode cX5_ofBidder 53 = .ok (.ireturn, 1) := by decide +kernel
theorem dX5_ofBidder_54 : decode cX5_ofBidder 54 = .ok (.aload_n 0, 1) := by decide +kernel
theorem dX5_ofBidder_55 : decode cX5_ofBidder 55 = .ok (.iload_n 1, 1) := by decide +kernel
theorem dX5_ofBidder_56 : decode cX5_ofBidder 56 = .ok (.iload_n 2, 1) := by decide +kernel
theorem dX5_ofBidder_57 : decode cX5_ofBidder 57 = .ok (.invokevirtual 56, 3) := by decide +kernel
theorem dX5_ofBidder_60 : decode cX5_ofBidder 60 = .ok (.ireturn, 1) := by decide +kernel
set_option maxRecDepth 20000 in
theorem ggX5_bidder_X5_isOne : GoodIn wsX5_bidder wsX5_isOne := goodIn_r _ [4, 5, 6, 3, 7] (by decide +kernel) (by decide +kernel)
set_option maxRecDepth 20000 in
theorem gX5_bidder_X5_isOne : GoodIn wsX5_bidder (va_wsS RX5 83 yX5_isOne wsX5_isOne) := goodIn_app (goodIn_of _ (by decide +kernel)) ggX5_bidder_X5_isOne
set_option maxRecDepth 20000 in
theorem ggX5_bidder_X5_in : GoodIn wsX5_bidder wsX5_in := goodIn_r _ [7] (by decide +kernel) (by decide +kernel)
set_option maxRecDepth 20000 in
theorem gX5_bidder_X5_in : GoodIn wsX5_bidder (va_wsS RX5 32 yX5_in wsX5_in) := goodIn_app (goodIn_of _ (by decide +kernel)) ggX5_bidder_X5_in
set_option maxRecDepth 20000 in
theorem ggX5_bidder_X5_holds : GoodIn wsX5_bidder wsX5_holds := goodIn_r _ [11, 12, 42, 43, 44, 45, 46, 47, 48, 49, 50, 51, 52, 53, 54, 55, 56, 57, 58, 59] (by decide +kernel) (by decide +kernel)
set_option maxRecDepth 20000 in
theorem gX5_bidder_X5_holds : GoodIn wsX5_bidder (wsV RX5 100 RX5 yX5_holds wsX5_holds) := goodIn_app (goodIn_of _ (by decide +kernel)) ggX5_bidder_X5_holds
set_option maxRecDepth 20000 in
theorem ggX5_bidder_X5_ofBidder : GoodIn wsX5_bidder wsX5_ofBidder := goodIn_r _ [16, 17, 18, 19, 3, 20, 21, 22, 23, 24, 25, 26, 27, 28, 29, 30, 31, 32, 33, 34, 35, 36, 37, 38, 39, 40, 41, 42, 43, 44, 45, 46, 47, 48, 49, 50, 51, 52, 53, 54, 55, 56, 57, 58, 59] (by decide +kernel) (by decide +kernel)
set_option maxRecDepth 20000 in
theorem gX5_bidder_X5_ofBidder : GoodIn wsX5_bidder (wsV RX5 191 RX5 yX5_ofBidder wsX5_ofBidder) := goodIn_app (goodIn_of _ (by decide +kernel)) ggX5_bidder_X5_ofBidder
theorem dX5_bidder_0 : decode cX5_bidder 0 = .ok (.aload_n 0, 1) := by decide +kernel
theorem dX5_bidder_1 : decode cX5_bidder 1 = .ok (.iload_n 1, 1) := by decide +kernel
theorem dX5_bidder_2 : decode cX5_bidder 2 = .ok (.invokestatic 83, 3) := by decide +kernel
theorem dX5_bidder_5 : decode cX5_bidder 5 = .ok (.ifCond .ne 7, 3) := by decide +kernel
theorem dX5_bidder_8 : decode cX5_bidder 8 = .ok (.iconst 1, 1) := by decide +kernel
theorem dX5_bidder_9 : decode cX5_bidder 9 = .ok (.goto 17, 3) := by decide +kernel
theorem dX5_bidder_12 : decode cX5_bidder 12 = .ok (.iload_n 2, 1) := by decide +kernel
theorem dX5_bidder_13 : decode cX5_bidder 13 = .ok (.iconst 0, 1) := by decide +kernel
theorem dX5_bidder_14 : decode cX5_bidder 14 = .ok (.iconst 5, 1) := by decide +kernel
theorem dX5_bidder_15 : decode cX5_bidder 15 = .ok (.invokestatic 32, 3) := by decide +kernel
theorem dX5_bidder_18 : decode cX5_bidder 18 = .ok (.ifCond .ne 7, 3) := by decide +kernel
theorem dX5_bidder_21 : decode cX5_bidder 21 = .ok (.iconst 2, 1) := by decide +kernel
theorem dX5_bidder_22 : decode cX5_bidder 22 = .ok (.goto 4, 3) := by decide +kernel
theorem dX5_bidder_25 : decode cX5_bidder 25 = .ok (.iconst 0, 1) := by decide +kernel
theorem dX5_bidder_26 : decode cX5_bidder 26 = .ok (.invokevirtual 100, 3) := by decide +kernel
theorem dX5_bidder_29 : decode cX5_bidder 29 = .ok (.ifCond .eq 12, 3) := by decide +kernel
theorem dX5_bidder_32 : decode cX5_bidder 32 = .ok (.aload_n 0, 1) := by decide +kernel
theorem dX5_bidder_33 : decode cX5_bidder 33 = .ok (.iload_n 1, 1) := by decide +kernel
theorem dX5_bidder_34 : decode cX5_bidder 34 = .ok (.iload_n 2, 1) := by decide +kernel
theorem dX5_bidder_35 : decode cX5_bidder 35 = .ok (.invokevirtual 191, 3) := by decide +kernel
theorem dX5_bidder_38 : decode cX5_bidder 38 = .ok (.goto 4, 3) := by decide +kernel
theorem dX5_bidder_41 : decode cX5_bidder 41 = .ok (.iconst 0, 1) := by decide +kernel
theorem dX5_bidder_42 : decode cX5_bidder 42 = .ok (.ireturn, 1) := by decide +kernel
set_option maxRecDepth 20000 in
theorem ggX5_ofBid_X5_whyKept : GoodIn wsX5_ofBid wsX5_whyKept := goodIn_r _ [6, 1, 7, 8, 9, 5, 10, 11, 12, 13, 14, 15, 16, 17, 18, 19, 20, 21, 22, 23, 24, 25, 26, 27, 28, 29, 30, 31, 32, 33, 34, 35, 36, 37, 38, 39, 40] (by decide +kernel) (by decide +kernel)
set_option maxRecDepth 20000 in
theorem gX5_ofBid_X5_whyKept : GoodIn wsX5_ofBid (wsV RX5 115 RX5 yX5_whyKept wsX5_whyKept) := goodIn_app (goodIn_of _ (by decide +kernel)) ggX5_ofBid_X5_whyKept
set_option maxRecDepth 20000 in
theorem ggX5_ofBid_X5_isBid : GoodIn wsX5_ofBid wsX5_isBid := goodIn_r _ [10, 1, 11, 12, 13, 5, 14, 23, 24, 25, 26, 27, 28, 29, 30, 31, 32, 33, 34, 35, 36, 37, 38, 39, 40] (by decide +kernel) (by decide +kernel)
set_option maxRecDepth 20000 in
theorem gX5_ofBid_X5_isBid : GoodIn wsX5_ofBid (wsV RX5 46 RX5 yX5_isBid wsX5_isBid) := goodIn_app (goodIn_of _ (by decide +kernel)) ggX5_ofBid_X5_isBid
set_option maxRecDepth 20000 in
theorem ggX5_ofBid_X5_fee : GoodIn wsX5_ofBid wsX5_fee := goodIn_r _ [22, 1, 11, 12, 13, 5, 14, 23, 24, 25, 26, 27, 28, 29, 30, 31, 32, 33, 34, 35, 36, 37, 38, 39, 40] (by decide +kernel) (by decide +kernel)
set_option maxRecDepth 20000 in
theorem gX5_ofBid_X5_fee : GoodIn wsX5_ofBid (wsV RX5 70 RX5 yX5_fee wsX5_fee) := goodIn_app (goodIn_of _ (by decide +kernel)) ggX5_ofBid_X5_fee
set_option maxRecDepth 20000 in
theorem ggX5_ofBid_X5_bidAt : GoodIn wsX5_ofBid wsX5_bidAt := goodIn_r _ [14] (by decide +kernel) (by decide +kernel)
set_option maxRecDepth 20000 in
theorem gX5_ofBid_X5_bidAt : GoodIn wsX5_ofBid (wsV RX5 36 RX5 yX5_bidAt wsX5_bidAt) := goodIn_app (goodIn_of _ (by decide +kernel)) ggX5_ofBid_X5_bidAt
theorem dX5_ofBid_0 : decode cX5_ofBid 0 = .ok (.iload_n 3, 1) := by decide +kernel
theorem dX5_ofBid_1 : decode cX5_ofBid 1 = .ok (.iconst 4, 1) := by decide +kernel
theorem dX5_ofBid_2 : decode cX5_ofBid 2 = .ok (.if_icmp .ne 10, 3) := by decide +kernel
theorem dX5_ofBid_5 : decode cX5_ofBid 5 = .ok (.aload_n 0, 1) := by decide +kernel
theorem dX5_ofBid_6 : decode cX5_ofBid 6 = .ok (.iload_n 1, 1) := by decide +kernel
theorem dX5_ofBid_7 : decode cX5_ofBid 7 = .ok (.iload_n 2, 1) := by decide +kernel
theorem dX5_ofBid_8 : decode cX5_ofBid 8 = .ok (.invokevirtual 115, 3) := by decide +kernel
theorem dX5_ofBid_11 : decode cX5_ofBid 11 = .ok (.ireturn, 1) := by decide +kernel
theorem dX5_ofBid_12 : decode cX5_ofBid 12 = .ok (.aload_n 0, 1) := by decide +kernel
theorem dX5_ofBid_13 : decode cX5_ofBid 13 = .ok (.iload_n 1, 1) := by decide +kernel
theorem dX5_ofBid_14 : decode cX5_ofBid 14 = .ok (.iload_n 2, 1) := by decide +kernel
theorem dX5_ofBid_15 : decode cX5_ofBid 15 = .ok (.invokevirtual 46, 3) := by decide +kernel
theorem dX5_ofBid_18 : decode cX5_ofBid 18 = .ok (.ifCond .eq 17, 3) := by decide +kernel
theorem dX5_ofBid_21 : decode cX5_ofBid 21 = .ok (.iload_n 3, 1) := by decide +kernel
theorem dX5_ofBid_22 : decode cX5_ofBid 22 = .ok (.iconst 2, 1) := by decide +kernel
theorem dX5_ofBid_23 : decode cX5_ofBid 23 = .ok (.if_icmp .ne 14, 3) := by decide +kernel
theorem dX5_ofBid_26 : decode cX5_ofBid 26 = .ok (.aload_n 0, 1) := by decide +kernel
theorem dX5_ofBid_27 : decode cX5_ofBid 27 = .ok (.getfield 7, 3) := by decide +kernel
theorem dX5_ofBid_30 : decode cX5_ofBid 30 = .ok (.iconst 2, 1) := by decide +kernel
theorem dX5_ofBid_31 : decode cX5_ofBid 31 = .ok (.iaload, 1) := by decide +kernel
theorem dX5_ofBid_32 : decode cX5_ofBid 32 = .ok (.ifCond .ne 5, 3) := by decide +kernel
theorem dX5_ofBid_35 : decode cX5_ofBid 35 = .ok (.iconst (-1), 1) := by decide +kernel
theorem dX5_ofBid_36 : decode cX5_ofBid 36 = .ok (.ireturn, 1) := by decide +kernel
theorem dX5_ofBid_37 : decode cX5_ofBid 37 = .ok (.iload_n 3, 1) := by decide +kernel
theorem dX5_ofBid_38 : decode cX5_ofBid 38 = .ok (.iconst 3, 1) := by decide +kernel
theorem dX5_ofBid_39 : decode cX5_ofBid 39 = .ok (.if_icmp .ne 12, 3) := by decide +kernel
theorem dX5_ofBid_42 : decode cX5_ofBid 42 = .ok (.aload_n 0, 1) := by decide +kernel
theorem dX5_ofBid_43 : decode cX5_ofBid 43 = .ok (.iload_n 1, 1) := by decide +kernel
theorem dX5_ofBid_44 : decode cX5_ofBid 44 = .ok (.iload_n 2, 1) := by decide +kernel
theorem dX5_ofBid_45 : decode cX5_ofBid 45 = .ok (.invokevirtual 70, 3) := by decide +kernel
theorem dX5_ofBid_48 : decode cX5_ofBid 48 = .ok (.goto 16, 3) := by decide +kernel
theorem dX5_ofBid_51 : decode cX5_ofBid 51 = .ok (.aload_n 0, 1) := by decide +kernel
theorem dX5_ofBid_52 : decode cX5_ofBid 52 = .ok (.getfield 7, 3) := by decide +kernel
theorem dX5_ofBid_55 : decode cX5_ofBid 55 = .ok (.aload_n 0, 1) := by decide +kernel
theorem dX5_ofBid_56 : decode cX5_ofBid 56 = .ok (.iload_n 1, 1) := by decide +kernel
theorem dX5_ofBid_57 : decode cX5_ofBid 57 = .ok (.iload_n 2, 1) := by decide +kernel
theorem dX5_ofBid_58 : decode cX5_ofBid 58 = .ok (.invokevirtual 36, 3) := by decide +kernel
theorem dX5_ofBid_61 : decode cX5_ofBid 61 = .ok (.iload_n 3, 1) := by decide +kernel
theorem dX5_ofBid_62 : decode cX5_ofBid 62 = .ok (.iadd, 1) := by decide +kernel
theorem dX5_ofBid_63 : decode cX5_ofBid 63 = .ok (.iaload, 1) := by decide +kernel
theorem dX5_ofBid_64 : decode cX5_ofBid 64 = .ok (.ireturn, 1) := by decide +kernel
set_option maxRecDepth 20000 in
theorem ggX5_sealed_X5_isOne : GoodIn wsX5_sealed wsX5_isOne := goodIn_r _ [4, 5, 6, 3, 7] (by decide +kernel) (by decide +kernel)
set_option maxRecDepth 20000 in
theorem gX5_sealed_X5_isOne : GoodIn wsX5_sealed (va_wsS RX5 83 yX5_isOne wsX5_isOne) := goodIn_app (goodIn_of _ (by decide +kernel)) ggX5_sealed_X5_isOne
set_option maxRecDepth 20000 in
theorem ggX5_sealed_X5_in : GoodIn wsX5_sealed wsX5_in := goodIn_r _ [7] (by decide +kernel) (by decide +kernel)
set_option maxRecDepth 20000 in
theorem gX5_sealed_X5_in : GoodIn wsX5_sealed (va_wsS RX5 32 yX5_in wsX5_in) := goodIn_app (goodIn_of _ (by decide +kernel)) ggX5_sealed_X5_in
set_option maxRecDepth 20000 in
theorem ggX5_sealed_X5_holds : GoodIn wsX5_sealed wsX5_holds := goodIn_r _ [11, 12, 38, 39, 40, 41, 42, 43, 44, 45, 46, 47, 48, 49, 50, 51, 52, 53, 54, 55] (by decide +kernel) (by decide +kernel)
set_option maxRecDepth 20000 in
theorem gX5_sealed_X5_holds : GoodIn wsX5_sealed (wsV RX5 100 RX5 yX5_holds wsX5_holds) := goodIn_app (goodIn_of _ (by decide +kernel)) ggX5_sealed_X5_holds
set_option maxRecDepth 20000 in
theorem ggX5_sealed_X5_ofBid : GoodIn wsX5_sealed wsX5_ofBid := goodIn_r _ [16, 17, 18, 19, 20, 3, 21, 22, 23, 24, 25, 26, 27, 28, 29, 30, 31, 32, 33, 34, 35, 36, 37, 38, 39, 40, 41, 42, 43, 44, 45, 46, 47, 48, 49, 50, 51, 52, 53, 54, 55] (by decide +kernel) (by decide +kernel)
set_option maxRecDepth 20000 in
theorem gX5_sealed_X5_ofBid : GoodIn wsX5_sealed (wsV RX5 194 RX5 yX5_ofBid wsX5_ofBid) := goodIn_app (goodIn_of _ (by decide +kernel)) ggX5_sealed_X5_ofBid
theorem dX5_sealed_0 : decode cX5_sealed 0 = .ok (.iload_n 1, 1) := by decide +kernel
theorem dX5_sealed_1 : decode cX5_sealed 1 = .ok (.invokestatic 83, 3) := by decide +kernel
theorem dX5_sealed_4 : decode cX5_sealed 4 = .ok (.ifCond .eq 14, 3) := by decide +kernel
theorem dX5_sealed_7 : decode cX5_sealed 7 = .ok (.iload_n 2, 1) := by decide +kernel
theorem dX5_sealed_8 : decode cX5_sealed 8 = .ok (.invokestatic 83, 3) := by decide +kernel
theorem dX5_sealed_11 : decode cX5_sealed 11 = .ok (.ifCond .eq 7, 3) := by decide +kernel
theorem dX5_sealed_14 : decode cX5_sealed 14 = .ok (.iconst 1, 1) := by decide +kernel
theorem dX5_sealed_15 : decode cX5_sealed 15 = .ok (.goto 4, 3) := by decide +kernel
theorem dX5_sealed_18 : decode cX5_sealed 18 = .ok (.iconst 0, 1) := by decide +kernel
theorem dX5_sealed_19 : decode cX5_sealed 19 = .ok (.istore 4, 2) := by decide +kernel
theorem dX5_sealed_21 : decode cX5_sealed 21 = .ok (.aload_n 0, 1) := by decide +kernel
theorem dX5_sealed_22 : decode cX5_sealed 22 = .ok (.iload 4, 2) := by decide +kernel
theorem dX5_sealed_24 : decode cX5_sealed 24 = .ok (.ifCond .ne 7, 3) := by decide +kernel
theorem dX5_sealed_27 : decode cX5_sealed 27 = .ok (.iconst 1, 1) := by decide +kernel
theorem dX5_sealed_28 : decode cX5_sealed 28 = .ok (.goto 17, 3) := by decide +kernel
theorem dX5_sealed_31 : decode cX5_sealed 31 = .ok (.iload_n 3, 1) := by decide +kernel
theorem dX5_sealed_32 : decode cX5_sealed 32 = .ok (.iconst 0, 1) := by decide +kernel
theorem dX5_sealed_33 : decode cX5_sealed 33 = .ok (.iconst 4, 1) := by decide +kernel
theorem dX5_sealed_34 : decode cX5_sealed 34 = .ok (.invokestatic 32, 3) := by decide +kernel
theorem dX5_sealed_37 : decode cX5_sealed 37 = .ok (.ifCond .ne 7, 3) := by decide +kernel
theorem dX5_sealed_40 : decode cX5_sealed 40 = .ok (.iconst 2, 1) := by decide +kernel
theorem dX5_sealed_41 : decode cX5_sealed 41 = .ok (.goto 4, 3) := by decide +kernel
theorem dX5_sealed_44 : decode cX5_sealed 44 = .ok (.iconst 0, 1) := by decide +kernel
theorem dX5_sealed_45 : decode cX5_sealed 45 = .ok (.invokevirtual 100, 3) := by decide +kernel
theorem dX5_sealed_48 : decode cX5_sealed 48 = .ok (.ifCond .eq 13, 3) := by decide +kernel
theorem dX5_sealed_51 : decode cX5_sealed 51 = .ok (.aload_n 0, 1) := by decide +kernel
theorem dX5_sealed_52 : decode cX5_sealed 52 = .ok (.iload_n 1, 1) := by decide +kernel
theorem dX5_sealed_53 : decode cX5_sealed 53 = .ok (.iload_n 2, 1) := by decide +kernel
theorem dX5_sealed_54 : decode cX5_sealed 54 = .ok (.iload_n 3, 1) := by decide +kernel
theorem dX5_sealed_55 : decode cX5_sealed 55 = .ok (.invokevirtual 194, 3) := by decide +kernel
theorem dX5_sealed_58 : decode cX5_sealed 58 = .ok (.goto 4, 3) := by decide +kernel
theorem dX5_sealed_61 : decode cX5_sealed 61 = .ok (.iconst 0, 1) := by decide +kernel
theorem dX5_sealed_62 : decode cX5_sealed 62 = .ok (.ireturn, 1) := by decide +kernel
set_option maxRecDepth 20000 in
theorem ggX5_counted_X5_bids : GoodIn wsX5_counted wsX5_bids := goodIn_r _ [7, 8, 9, 10, 6, 11, 1, 12, 13, 14, 15, 24, 25, 26, 27, 28, 29, 30, 31, 32, 33, 34, 35, 36, 37, 38, 39, 40, 41] (by decide +kernel) (by decide +kernel)
set_option maxRecDepth 20000 in
theorem gX5_counted_X5_bids : GoodIn wsX5_counted (wsV RX5 181 RX5 yX5_bids wsX5_bids) := goodIn_app (goodIn_of _ (by decide +kernel)) ggX5_counted_X5_bids
set_option maxRecDepth 20000 in
theorem ggX5_counted_X5_has : GoodIn wsX5_counted wsX5_has := goodIn_r _ [19, 1, 24, 25, 26, 27, 28, 29, 30, 31, 32, 33, 34, 35, 36, 37, 38, 39, 40, 41] (by decide +kernel) (by decide +kernel)
set_option maxRecDepth 20000 in
theorem gX5_counted_X5_has : GoodIn wsX5_counted (wsV RX5 56 RX5 yX5_has wsX5_has) := goodIn_app (goodIn_of _ (by decide +kernel)) ggX5_counted_X5_has
set_option maxRecDepth 20000 in
theorem ggX5_counted_X5_of : GoodIn wsX5_counted wsX5_of := goodIn_r _ [23, 1, 24, 25, 26, 27, 28, 29, 30, 31, 32, 33, 34, 35, 36, 37, 38, 39, 40, 41] (by decide +kernel) (by decide +kernel)
set_option maxRecDepth 20000 in
theorem gX5_counted_X5_of : GoodIn wsX5_counted (wsV RX5 53 RX5 yX5_of wsX5_of) := goodIn_app (goodIn_of _ (by decide +kernel)) ggX5_counted_X5_of
theorem dX5_counted_0 : decode cX5_counted 0 = .ok (.iconst 0, 1) := by decide +kernel
theorem dX5_counted_1 : decode cX5_counted 1 = .ok (.istore_n 2, 1) := by decide +kernel
theorem dX5_counted_2 : decode cX5_counted 2 = .ok (.iload_n 1, 1) := by decide +kernel
theorem dX5_counted_3 : decode cX5_counted 3 = .ok (.tableswitch 188 3 14 #[61, 100, 61, 107, 114, 121, 129, 137, 162, 170, 170, 183], 61) := by decide +kernel
theorem dX5_counted_64 : decode cX5_counted 64 = .ok (.iconst 0, 1) := by decide +kernel
theorem dX5_counted_65 : decode cX5_counted 65 = .ok (.istore_n 3, 1) := by decide +kernel
theorem dX5_counted_66 : decode cX5_counted 66 = .ok (.iload_n 3, 1) := by decide +kernel
theorem dX5_counted_67 : decode cX5_counted 67 = .ok (.bipush 6, 2) := by decide +kernel
theorem dX5_counted_69 : decode cX5_counted 69 = .ok (.if_icmp .ge 32, 3) := by decide +kernel
theorem dX5_counted_72 : decode cX5_counted 72 = .ok (.iload_n 2, 1) := by decide +kernel
theorem dX5_counted_73 : decode cX5_counted 73 = .ok (.iload_n 1, 1) := by decide +kernel
theorem dX5_counted_74 : decode cX5_counted 74 = .ok (.iconst 3, 1) := by decide +kernel
theorem dX5_counted_75 : decode cX5_counted 75 = .ok (.if_icmp .ne 12, 3) := by decide +kernel
theorem dX5_counted_78 : decode cX5_counted 78 = .ok (.aload_n 0, 1) := by decide +kernel
theorem dX5_counted_79 : decode cX5_counted 79 = .ok (.iload_n 3, 1) := by decide +kernel
theorem dX5_counted_80 : decode cX5_counted 80 = .ok (.iconst 1, 1) := by decide +kernel
theorem dX5_counted_81 : decode cX5_counted 81 = .ok (.invokevirtual 181, 3) := by decide +kernel
theorem dX5_counted_84 : decode cX5_counted 84 = .ok (.goto 9, 3) := by decide +kernel
theorem dX5_counted_87 : decode cX5_counted 87 = .ok (.aload_n 0, 1) := by decide +kernel
theorem dX5_counted_88 : decode cX5_counted 88 = .ok (.iload_n 3, 1) := by decide +kernel
theorem dX5_counted_89 : decode cX5_counted 89 = .ok (.iconst 0, 1) := by decide +kernel
theorem dX5_counted_90 : decode cX5_counted 90 = .ok (.invokevirtual 56, 3) := by decide +kernel
theorem dX5_counted_93 : decode cX5_counted 93 = .ok (.iadd, 1) := by decide +kernel
theorem dX5_counted_94 : decode cX5_counted 94 = .ok (.istore_n 2, 1) := by decide +kernel
theorem dX5_counted_95 : decode cX5_counted 95 = .ok (.iinc 3 1, 3) := by decide +kernel
theorem dX5_counted_98 : decode cX5_counted 98 = .ok (.goto (-32), 3) := by decide +kernel
theorem dX5_counted_101 : decode cX5_counted 101 = .ok (.iload_n 2, 1) := by decide +kernel
theorem dX5_counted_102 : decode cX5_counted 102 = .ok (.ireturn, 1) := by decide +kernel
theorem dX5_counted_103 : decode cX5_counted 103 = .ok (.aload_n 0, 1) := by decide +kernel
theorem dX5_counted_104 : decode cX5_counted 104 = .ok (.getfield 7, 3) := by decide +kernel
theorem dX5_counted_107 : decode cX5_counted 107 = .ok (.iconst 3, 1) := by decide +kernel
theorem dX5_counted_108 : decode cX5_counted 108 = .ok (.iaload, 1) := by decide +kernel
theorem dX5_counted_109 : decode cX5_counted 109 = .ok (.ireturn, 1) := by decide +kernel
theorem dX5_counted_110 : decode cX5_counted 110 = .ok (.aload_n 0, 1) := by decide +kernel
theorem dX5_counted_111 : decode cX5_counted 111 = .ok (.getfield 7, 3) := by decide +kernel
theorem dX5_counted_114 : decode cX5_counted 114 = .ok (.iconst 4, 1) := by decide +kernel
theorem dX5_counted_115 : decode cX5_counted 115 = .ok (.iaload, 1) := by decide +kernel
theorem dX5_counted_116 : decode cX5_counted 116 = .ok (.ireturn, 1) := by decide +kernel
theorem dX5_counted_117 : decode cX5_counted 117 = .ok (.aload_n 0, 1) := by decide +kernel
theorem dX5_counted_118 : decode cX5_counted 118 = .ok (.getfield 7, 3) := by decide +kernel
theorem dX5_counted_121 : decode cX5_counted 121 = .ok (.iconst 5, 1) := by decide +kernel
theorem dX5_counted_122 : decode cX5_counted 122 = .ok (.iaload, 1) := by decide +kernel
theorem dX5_counted_123 : decode cX5_counted 123 = .ok (.ireturn, 1) := by decide +kernel
theorem dX5_counted_124 : decode cX5_counted 124 = .ok (.aload_n 0, 1) := by decide +kernel
theorem dX5_counted_125 : decode cX5_counted 125 = .ok (.getfield 7, 3) := by decide +kernel
theorem dX5_counted_128 : decode cX5_counted 128 = .ok (.bipush 6, 2) := by decide +kernel
theorem dX5_counted_130 : decode cX5_counted 130 = .ok (.iaload, 1) := by decide +kernel
theorem dX5_counted_131 : decode cX5_counted 131 = .ok (.ireturn, 1) := by decide +kernel
theorem dX5_counted_132 : decode cX5_counted 132 = .ok (.aload_n 0, 1) := by decide +kernel
theorem dX5_counted_133 : decode cX5_counted 133 = .ok (.getfield 7, 3) := by decide +kernel
theorem dX5_counted_136 : decode cX5_counted 136 = .ok (.bipush 7, 2) := by decide +kernel
theorem dX5_counted_138 : decode cX5_counted 138 = .ok (.iaload, 1) := by decide +kernel
theorem dX5_counted_139 : decode cX5_counted 139 = .ok (.ireturn, 1) := by decide +kernel
theorem dX5_counted_140 : decode cX5_counted 140 = .ok (.iconst 0, 1) := by decide +kernel
theorem dX5_counted_141 : decode cX5_counted 141 = .ok (.istore_n 3, 1) := by decide +kernel
theorem dX5_counted_142 : decode cX5_counted 142 = .ok (.iload_n 3, 1) := by decide +kernel
theorem dX5_counted_143 : decode cX5_counted 143 = .ok (.bipush 6, 2) := by decide +kernel
theorem dX5_counted_145 : decode cX5_counted 145 = .ok (.if_icmp .ge 18, 3) := by decide +kernel
theorem dX5_counted_148 : decode cX5_counted 148 = .ok (.iload_n 2, 1) := by decide +kernel
theorem dX5_counted_149 : decode cX5_counted 149 = .ok (.aload_n 0, 1) := by decide +kernel
theorem dX5_counted_150 : decode cX5_counted 150 = .ok (.iload_n 3, 1) := by decide +kernel
theorem dX5_counted_151 : decode cX5_counted 151 = .ok (.iconst 1, 1) := by decide +kernel
theorem dX5_counted_152 : decode cX5_counted 152 = .ok (.invokevirtual 53, 3) := by decide +kernel
theorem dX5_counted_155 : decode cX5_counted 155 = .ok (.iadd, 1) := by decide +kernel
theorem dX5_counted_156 : decode cX5_counted 156 = .ok (.istore_n 2, 1) := by decide +kernel
theorem dX5_counted_157 : decode cX5_counted 157 = .ok (.iinc 3 1, 3) := by decide +kernel
theorem dX5_counted_160 : decode cX5_counted 160 = .ok (.goto (-18), 3) := by decide +kernel
theorem dX5_counted_163 : decode cX5_counted 163 = .ok (.iload_n 2, 1) := by decide +kernel
theorem dX5_counted_164 : decode cX5_counted 164 = .ok (.ireturn, 1) := by decide +kernel
theorem dX5_counted_165 : decode cX5_counted 165 = .ok (.aload_n 0, 1) := by decide +kernel
theorem dX5_counted_166 : decode cX5_counted 166 = .ok (.getfield 7, 3) := by decide +kernel
theorem dX5_counted_169 : decode cX5_counted 169 = .ok (.bipush 8, 2) := by decide +kernel
theorem dX5_counted_171 : decode cX5_counted 171 = .ok (.iaload, 1) := by decide +kernel
theorem dX5_counted_172 : decode cX5_counted 172 = .ok (.ireturn, 1) := by decide +kernel
theorem dX5_counted_173 : decode cX5_counted 173 = .ok (.aload_n 0, 1) := by decide +kernel
theorem dX5_counted_174 : decode cX5_counted 174 = .ok (.getfield 7, 3) := by decide +kernel
theorem dX5_counted_177 : decode cX5_counted 177 = .ok (.bipush 9, 2) := by decide +kernel
theorem dX5_counted_179 : decode cX5_counted 179 = .ok (.iload_n 1, 1) := by decide +kernel
theorem dX5_counted_180 : decode cX5_counted 180 = .ok (.iadd, 1) := by decide +kernel
theorem dX5_counted_181 : decode cX5_counted 181 = .ok (.bipush 12, 2) := by decide +kernel
theorem dX5_counted_183 : decode cX5_counted 183 = .ok (.isub, 1) := by decide +kernel
theorem dX5_counted_184 : decode cX5_counted 184 = .ok (.iaload, 1) := by decide +kernel
theorem dX5_counted_185 : decode cX5_counted 185 = .ok (.ireturn, 1) := by decide +kernel
theorem dX5_counted_186 : decode cX5_counted 186 = .ok (.aload_n 0, 1) := by decide +kernel
theorem dX5_counted_187 : decode cX5_counted 187 = .ok (.getfield 91, 3) := by decide +kernel
theorem dX5_counted_190 : decode cX5_counted 190 = .ok (.ireturn, 1) := by decide +kernel
theorem dX5_counted_191 : decode cX5_counted 191 = .ok (.aload_n 0, 1) := by decide +kernel
theorem dX5_counted_192 : decode cX5_counted 192 = .ok (.getfield 7, 3) := by decide +kernel
theorem dX5_counted_195 : decode cX5_counted 195 = .ok (.iload_n 1, 1) := by decide +kernel
theorem dX5_counted_196 : decode cX5_counted 196 = .ok (.iaload, 1) := by decide +kernel
theorem dX5_counted_197 : decode cX5_counted 197 = .ok (.ireturn, 1) := by decide +kernel
set_option maxRecDepth 20000 in
theorem ggX5_count_X5_in : GoodIn wsX5_count wsX5_in := goodIn_r _ [4] (by decide +kernel) (by decide +kernel)
set_option maxRecDepth 20000 in
theorem gX5_count_X5_in : GoodIn wsX5_count (va_wsS RX5 32 yX5_in wsX5_in) := goodIn_app (goodIn_of _ (by decide +kernel)) ggX5_count_X5_in
set_option maxRecDepth 20000 in
theorem ggX5_count_X5_holds : GoodIn wsX5_count wsX5_holds := goodIn_r _ [8, 9, 36, 37, 38, 39, 40, 41, 42, 43, 44, 45, 46, 47, 48, 49, 50, 51, 52, 53] (by decide +kernel) (by decide +kernel)
set_option maxRecDepth 20000 in
theorem gX5_count_X5_holds : GoodIn wsX5_count (wsV RX5 100 RX5 yX5_holds wsX5_holds) := goodIn_app (goodIn_of _ (by decide +kernel)) ggX5_count_X5_holds
set_option maxRecDepth 20000 in
theorem ggX5_count_X5_counted : GoodIn wsX5_count wsX5_counted := goodIn_r _ [13, 14, 15, 16, 17, 18, 3, 19, 20, 21, 22, 23, 24, 25, 26, 27, 28, 29, 30, 31, 32, 33, 34, 35, 36, 37, 38, 39, 40, 41, 42, 43, 44, 45, 46, 47, 48, 49, 50, 51, 52, 53] (by decide +kernel) (by decide +kernel)
set_option maxRecDepth 20000 in
theorem gX5_count_X5_counted : GoodIn wsX5_count (wsV RX5 197 RX5 yX5_counted wsX5_counted) := goodIn_app (goodIn_of _ (by decide +kernel)) ggX5_count_X5_counted
theorem dX5_count_0 : decode cX5_count 0 = .ok (.aload_n 0, 1) := by decide +kernel
theorem dX5_count_1 : decode cX5_count 1 = .ok (.iload_n 1, 1) := by decide +kernel
theorem dX5_count_2 : decode cX5_count 2 = .ok (.iconst 0, 1) := by decide +kernel
theorem dX5_count_3 : decode cX5_count 3 = .ok (.bipush 14, 2) := by decide +kernel
theorem dX5_count_5 : decode cX5_count 5 = .ok (.invokestatic 32, 3) := by decide +kernel
theorem dX5_count_8 : decode cX5_count 8 = .ok (.ifCond .eq 7, 3) := by decide +kernel
theorem dX5_count_11 : decode cX5_count 11 = .ok (.iconst 0, 1) := by decide +kernel
theorem dX5_count_12 : decode cX5_count 12 = .ok (.goto 4, 3) := by decide +kernel
theorem dX5_count_15 : decode cX5_count 15 = .ok (.iconst 1, 1) := by decide +kernel
theorem dX5_count_16 : decode cX5_count 16 = .ok (.invokevirtual 100, 3) := by decide +kernel
theorem dX5_count_19 : decode cX5_count 19 = .ok (.ifCond .eq 11, 3) := by decide +kernel
theorem dX5_count_22 : decode cX5_count 22 = .ok (.aload_n 0, 1) := by decide +kernel
theorem dX5_count_23 : decode cX5_count 23 = .ok (.iload_n 1, 1) := by decide +kernel
theorem dX5_count_24 : decode cX5_count 24 = .ok (.invokevirtual 197, 3) := by decide +kernel
theorem dX5_count_27 : decode cX5_count 27 = .ok (.goto 4, 3) := by decide +kernel
theorem dX5_count_30 : decode cX5_count 30 = .ok (.iconst 0, 1) := by decide +kernel
theorem dX5_count_31 : decode cX5_count 31 = .ok (.ireturn, 1) := by decide +kernel
set_option maxRecDepth 20000 in
theorem ggX5_setting_X5_in : GoodIn wsX5_setting wsX5_in := goodIn_r _ [5] (by decide +kernel) (by decide +kernel)
set_option maxRecDepth 20000 in
theorem gX5_setting_X5_in : GoodIn wsX5_setting (va_wsS RX5 32 yX5_in wsX5_in) := goodIn_app (goodIn_of _ (by decide +kernel)) ggX5_setting_X5_in
set_option maxRecDepth 20000 in
theorem ggX5_setting_X5_holds : GoodIn wsX5_setting wsX5_holds := goodIn_r _ [9, 10, 11, 12, 13, 14, 15, 16, 17, 18, 19, 20, 21, 22, 23, 24, 25, 26, 27, 28] (by decide +kernel) (by decide +kernel)
set_option maxRecDepth 20000 in
theorem gX5_setting_X5_holds : GoodIn wsX5_setting (wsV RX5 100 RX5 yX5_holds wsX5_holds) := goodIn_app (goodIn_of _ (by decide +kernel)) ggX5_setting_X5_holds
theorem dX5_setting_0 : decode cX5_setting 0 = .ok (.aload_n 0, 1) := by decide +kernel
theorem dX5_setting_1 : decode cX5_setting 1 = .ok (.iload_n 1, 1) := by decide +kernel
theorem dX5_setting_2 : decode cX5_setting 2 = .ok (.iconst 0, 1) := by decide +kernel
theorem dX5_setting_3 : decode cX5_setting 3 = .ok (.iconst 2, 1) := by decide +kernel
theorem dX5_setting_4 : decode cX5_setting 4 = .ok (.invokestatic 32, 3) := by decide +kernel
theorem dX5_setting_7 : decode cX5_setting 7 = .ok (.ifCond .eq 7, 3) := by decide +kernel
theorem dX5_setting_10 : decode cX5_setting 10 = .ok (.iconst 0, 1) := by decide +kernel
theorem dX5_setting_11 : decode cX5_setting 11 = .ok (.goto 4, 3) := by decide +kernel
theorem dX5_setting_14 : decode cX5_setting 14 = .ok (.iconst 1, 1) := by decide +kernel
theorem dX5_setting_15 : decode cX5_setting 15 = .ok (.invokevirtual 100, 3) := by decide +kernel
theorem dX5_setting_18 : decode cX5_setting 18 = .ok (.ifCond .eq 15, 3) := by decide +kernel
theorem dX5_setting_21 : decode cX5_setting 21 = .ok (.aload_n 0, 1) := by decide +kernel
theorem dX5_setting_22 : decode cX5_setting 22 = .ok (.getfield 7, 3) := by decide +kernel
theorem dX5_setting_25 : decode cX5_setting 25 = .ok (.bipush 12, 2) := by decide +kernel
theorem dX5_setting_27 : decode cX5_setting 27 = .ok (.iload_n 1, 1) := by decide +kernel
theorem dX5_setting_28 : decode cX5_setting 28 = .ok (.iadd, 1) := by decide +kernel
theorem dX5_setting_29 : decode cX5_setting 29 = .ok (.iaload, 1) := by decide +kernel
theorem dX5_setting_30 : decode cX5_setting 30 = .ok (.goto 4, 3) := by decide +kernel
theorem dX5_setting_33 : decode cX5_setting 33 = .ok (.iconst 0, 1) := by decide +kernel
theorem dX5_setting_34 : decode cX5_setting 34 = .ok (.ireturn, 1) := by decide +kernel
set_option maxRecDepth 20000 in
theorem ggX5_why_X5_isOne : GoodIn wsX5_why wsX5_isOne := goodIn_r _ [4, 5, 6, 3, 7] (by decide +kernel) (by decide +kernel)
set_option maxRecDepth 20000 in
theorem gX5_why_X5_isOne : GoodIn wsX5_why (va_wsS RX5 83 yX5_isOne wsX5_isOne) := goodIn_app (goodIn_of _ (by decide +kernel)) ggX5_why_X5_isOne
set_option maxRecDepth 20000 in
theorem ggX5_why_X5_isAmount : GoodIn wsX5_why wsX5_isAmount := goodIn_r _ [10, 5, 6, 3, 7] (by decide +kernel) (by decide +kernel)
set_option maxRecDepth 20000 in
theorem gX5_why_X5_isAmount : GoodIn wsX5_why (va_wsS RX5 106 yX5_isAmount wsX5_isAmount) := goodIn_app (goodIn_of _ (by decide +kernel)) ggX5_why_X5_isAmount
set_option maxRecDepth 20000 in
theorem ggX5_why_X5_holds : GoodIn wsX5_why wsX5_holds := goodIn_r _ [14, 15, 37, 38, 39, 40, 41, 42, 43, 44, 45, 46, 47, 48, 49, 50, 51, 52, 53, 54] (by decide +kernel) (by decide +kernel)
set_option maxRecDepth 20000 in
theorem gX5_why_X5_holds : GoodIn wsX5_why (wsV RX5 100 RX5 yX5_holds wsX5_holds) := goodIn_app (goodIn_of _ (by decide +kernel)) ggX5_why_X5_holds
set_option maxRecDepth 20000 in
theorem ggX5_why_X5_reason : GoodIn wsX5_why wsX5_reason := goodIn_r _ [19, 20, 21, 22, 23, 3, 24, 25, 26, 27, 28, 29, 30, 31, 32, 33, 34, 35, 36, 37, 38, 39, 40, 41, 42, 43, 44, 45, 46, 47, 48, 49, 50, 51, 52, 53, 54] (by decide +kernel) (by decide +kernel)
set_option maxRecDepth 20000 in
theorem gX5_why_X5_reason : GoodIn wsX5_why (wsV RX5 109 RX5 yX5_reason wsX5_reason) := goodIn_app (goodIn_of _ (by decide +kernel)) ggX5_why_X5_reason
theorem dX5_why_0 : decode cX5_why 0 = .ok (.iload_n 1, 1) := by decide +kernel
theorem dX5_why_1 : decode cX5_why 1 = .ok (.invokestatic 83, 3) := by decide +kernel
theorem dX5_why_4 : decode cX5_why 4 = .ok (.ifCond .eq 14, 3) := by decide +kernel
theorem dX5_why_7 : decode cX5_why 7 = .ok (.iload_n 2, 1) := by decide +kernel
theorem dX5_why_8 : decode cX5_why 8 = .ok (.invokestatic 83, 3) := by decide +kernel
theorem dX5_why_11 : decode cX5_why 11 = .ok (.ifCond .eq 7, 3) := by decide +kernel
theorem dX5_why_14 : decode cX5_why 14 = .ok (.iconst 1, 1) := by decide +kernel
theorem dX5_why_15 : decode cX5_why 15 = .ok (.goto 4, 3) := by decide +kernel
theorem dX5_why_18 : decode cX5_why 18 = .ok (.iconst 0, 1) := by decide +kernel
theorem dX5_why_19 : decode cX5_why 19 = .ok (.istore 4, 2) := by decide +kernel
theorem dX5_why_21 : decode cX5_why 21 = .ok (.aload_n 0, 1) := by decide +kernel
theorem dX5_why_22 : decode cX5_why 22 = .ok (.iload 4, 2) := by decide +kernel
theorem dX5_why_24 : decode cX5_why 24 = .ok (.ifCond .ne 7, 3) := by decide +kernel
theorem dX5_why_27 : decode cX5_why 27 = .ok (.iconst 1, 1) := by decide +kernel
theorem dX5_why_28 : decode cX5_why 28 = .ok (.goto 15, 3) := by decide +kernel
theorem dX5_why_31 : decode cX5_why 31 = .ok (.iload_n 3, 1) := by decide +kernel
theorem dX5_why_32 : decode cX5_why 32 = .ok (.invokestatic 106, 3) := by decide +kernel
theorem dX5_why_35 : decode cX5_why 35 = .ok (.ifCond .ne 7, 3) := by decide +kernel
theorem dX5_why_38 : decode cX5_why 38 = .ok (.iconst 2, 1) := by decide +kernel
theorem dX5_why_39 : decode cX5_why 39 = .ok (.goto 4, 3) := by decide +kernel
theorem dX5_why_42 : decode cX5_why 42 = .ok (.iconst 0, 1) := by decide +kernel
theorem dX5_why_43 : decode cX5_why 43 = .ok (.invokevirtual 100, 3) := by decide +kernel
theorem dX5_why_46 : decode cX5_why 46 = .ok (.ifCond .eq 13, 3) := by decide +kernel
theorem dX5_why_49 : decode cX5_why 49 = .ok (.aload_n 0, 1) := by decide +kernel
theorem dX5_why_50 : decode cX5_why 50 = .ok (.iload_n 1, 1) := by decide +kernel
theorem dX5_why_51 : decode cX5_why 51 = .ok (.iload_n 2, 1) := by decide +kernel
theorem dX5_why_52 : decode cX5_why 52 = .ok (.iload_n 3, 1) := by decide +kernel
theorem dX5_why_53 : decode cX5_why 53 = .ok (.invokevirtual 109, 3) := by decide +kernel
theorem dX5_why_56 : decode cX5_why 56 = .ok (.goto 4, 3) := by decide +kernel
theorem dX5_why_59 : decode cX5_why 59 = .ok (.iconst 0, 1) := by decide +kernel
theorem dX5_why_60 : decode cX5_why 60 = .ok (.ireturn, 1) := by decide +kernel
set_option maxRecDepth 20000 in
theorem ggX5_worth_X5_in : GoodIn wsX5_worth wsX5_in := goodIn_r _ [4] (by decide +kernel) (by decide +kernel)
set_option maxRecDepth 20000 in
theorem gX5_worth_X5_in : GoodIn wsX5_worth (va_wsS RX5 32 yX5_in wsX5_in) := goodIn_app (goodIn_of _ (by decide +kernel)) ggX5_worth_X5_in
set_option maxRecDepth 20000 in
theorem ggX5_worth_X5_holds : GoodIn wsX5_worth wsX5_holds := goodIn_r _ [8, 9, 47, 48, 49, 50, 51, 52, 53, 54, 55, 56, 57, 58, 59, 60, 61, 62, 63, 64] (by decide +kernel) (by decide +kernel)
set_option maxRecDepth 20000 in
theorem gX5_worth_X5_holds : GoodIn wsX5_worth (wsV RX5 100 RX5 yX5_holds wsX5_holds) := goodIn_app (goodIn_of _ (by decide +kernel)) ggX5_worth_X5_holds
set_option maxRecDepth 20000 in
theorem ggX5_worth_X5_worthOf : GoodIn wsX5_worth wsX5_worthOf := goodIn_r _ [13, 14, 15, 16, 17, 3, 18, 19, 20, 21, 22, 23, 24, 25, 26, 27, 28, 29, 30, 31, 32, 33, 34, 35, 36, 37, 38, 39, 40, 41, 42, 43, 44, 45, 46, 47, 48, 49, 50, 51, 52, 53, 54, 55, 56, 57, 58, 59, 60, 61, 62, 63, 64] (by decide +kernel) (by decide +kernel)
set_option maxRecDepth 20000 in
theorem gX5_worth_X5_worthOf : GoodIn wsX5_worth (wsV RX5 66 RX5 yX5_worthOf wsX5_worthOf) := goodIn_app (goodIn_of _ (by decide +kernel)) ggX5_worth_X5_worthOf
theorem dX5_worth_0 : decode cX5_worth 0 = .ok (.aload_n 0, 1) := by decide +kernel
theorem dX5_worth_1 : decode cX5_worth 1 = .ok (.iload_n 1, 1) := by decide +kernel
theorem dX5_worth_2 : decode cX5_worth 2 = .ok (.iconst 0, 1) := by decide +kernel
theorem dX5_worth_3 : decode cX5_worth 3 = .ok (.bipush 6, 2) := by decide +kernel
theorem dX5_worth_5 : decode cX5_worth 5 = .ok (.invokestatic 32, 3) := by decide +kernel
theorem dX5_worth_8 : decode cX5_worth 8 = .ok (.ifCond .eq 16, 3) := by decide +kernel
theorem dX5_worth_11 : decode cX5_worth 11 = .ok (.iload_n 2, 1) := by decide +kernel
theorem dX5_worth_12 : decode cX5_worth 12 = .ok (.iconst 0, 1) := by decide +kernel
theorem dX5_worth_13 : decode cX5_worth 13 = .ok (.iconst 1, 1) := by decide +kernel
theorem dX5_worth_14 : decode cX5_worth 14 = .ok (.invokestatic 32, 3) := by decide +kernel
theorem dX5_worth_17 : decode cX5_worth 17 = .ok (.ifCond .eq 7, 3) := by decide +kernel
theorem dX5_worth_20 : decode cX5_worth 20 = .ok (.iconst 0, 1) := by decide +kernel
theorem dX5_worth_21 : decode cX5_worth 21 = .ok (.goto 4, 3) := by decide +kernel
theorem dX5_worth_24 : decode cX5_worth 24 = .ok (.iconst 1, 1) := by decide +kernel
theorem dX5_worth_25 : decode cX5_worth 25 = .ok (.invokevirtual 100, 3) := by decide +kernel
theorem dX5_worth_28 : decode cX5_worth 28 = .ok (.ifCond .eq 11, 3) := by decide +kernel
theorem dX5_worth_31 : decode cX5_worth 31 = .ok (.aload_n 0, 1) := by decide +kernel
theorem dX5_worth_32 : decode cX5_worth 32 = .ok (.iload_n 1, 1) := by decide +kernel
theorem dX5_worth_33 : decode cX5_worth 33 = .ok (.invokevirtual 66, 3) := by decide +kernel
theorem dX5_worth_36 : decode cX5_worth 36 = .ok (.goto 4, 3) := by decide +kernel
theorem dX5_worth_39 : decode cX5_worth 39 = .ok (.iconst 0, 1) := by decide +kernel
theorem dX5_worth_40 : decode cX5_worth 40 = .ok (.ireturn, 1) := by decide +kernel
set_option maxRecDepth 20000 in
theorem ggX5_opened_X5_shares : GoodIn wsX5_opened wsX5_shares := goodIn_r _ [7, 8, 1, 2, 9, 10, 11, 6, 12, 13, 14, 15, 16, 17, 18, 19, 20, 21, 22, 23, 24, 25, 26, 27, 28, 29, 30, 31, 32, 33, 34, 35, 36, 37, 38, 39, 40, 41, 42, 43, 44, 45, 46, 47, 48, 49, 50, 51, 52, 53, 54, 55, 56, 57, 58, 59, 60, 61, 62] (by decide +kernel) (by decide +kernel)
set_option maxRecDepth 20000 in
theorem gX5_opened_X5_shares : GoodIn wsX5_opened (wsV RX5 77 RX5 yX5_shares wsX5_shares) := goodIn_app (goodIn_of _ (by decide +kernel)) ggX5_opened_X5_shares
theorem dX5_opened_0 : decode cX5_opened 0 = .ok (.aload_n 0, 1) := by decide +kernel
theorem dX5_opened_1 : decode cX5_opened 1 = .ok (.invokevirtual 77, 3) := by decide +kernel
theorem dX5_opened_4 : decode cX5_opened 4 = .ok (.iload_n 2, 1) := by decide +kernel
theorem dX5_opened_5 : decode cX5_opened 5 = .ok (.ifCond .ne 12, 3) := by decide +kernel
theorem dX5_opened_8 : decode cX5_opened 8 = .ok (.aload_n 0, 1) := by decide +kernel
theorem dX5_opened_9 : decode cX5_opened 9 = .ok (.getfield 23, 3) := by decide +kernel
theorem dX5_opened_12 : decode cX5_opened 12 = .ok (.iload_n 1, 1) := by decide +kernel
theorem dX5_opened_13 : decode cX5_opened 13 = .ok (.iaload, 1) := by decide +kernel
theorem dX5_opened_14 : decode cX5_opened 14 = .ok (.goto 9, 3) := by decide +kernel
theorem dX5_opened_17 : decode cX5_opened 17 = .ok (.aload_n 0, 1) := by decide +kernel
theorem dX5_opened_18 : decode cX5_opened 18 = .ok (.getfield 26, 3) := by decide +kernel
theorem dX5_opened_21 : decode cX5_opened 21 = .ok (.iload_n 1, 1) := by decide +kernel
theorem dX5_opened_22 : decode cX5_opened 22 = .ok (.iaload, 1) := by decide +kernel
theorem dX5_opened_23 : decode cX5_opened 23 = .ok (.ireturn, 1) := by decide +kernel
set_option maxRecDepth 20000 in
theorem ggX5_ifOpened_X5_isOne : GoodIn wsX5_ifOpened wsX5_isOne := goodIn_r _ [4, 5, 6, 3, 7] (by decide +kernel) (by decide +kernel)
set_option maxRecDepth 20000 in
theorem gX5_ifOpened_X5_isOne : GoodIn wsX5_ifOpened (va_wsS RX5 83 yX5_isOne wsX5_isOne) := goodIn_app (goodIn_of _ (by decide +kernel)) ggX5_ifOpened_X5_isOne
set_option maxRecDepth 20000 in
theorem ggX5_ifOpened_X5_in : GoodIn wsX5_ifOpened wsX5_in := goodIn_r _ [7] (by decide +kernel) (by decide +kernel)
set_option maxRecDepth 20000 in
theorem gX5_ifOpened_X5_in : GoodIn wsX5_ifOpened (va_wsS RX5 32 yX5_in wsX5_in) := goodIn_app (goodIn_of _ (by decide +kernel)) ggX5_ifOpened_X5_in
set_option maxRecDepth 20000 in
theorem ggX5_ifOpened_X5_holds : GoodIn wsX5_ifOpened wsX5_holds := goodIn_r _ [11, 12, 60, 61, 62, 63, 64, 65, 66, 67, 68, 69, 70, 71, 72, 73, 74, 75, 76, 77] (by decide +kernel) (by decide +kernel)
set_option maxRecDepth 20000 in
theorem gX5_ifOpened_X5_holds : GoodIn wsX5_ifOpened (wsV RX5 100 RX5 yX5_holds wsX5_holds) := goodIn_app (goodIn_of _ (by decide +kernel)) ggX5_ifOpened_X5_holds
set_option maxRecDepth 20000 in
theorem ggX5_ifOpened_X5_opened : GoodIn wsX5_ifOpened wsX5_opened := goodIn_r _ [16, 17, 18, 19, 20, 21, 3, 22, 23, 24, 25, 26, 27, 28, 29, 30, 31, 32, 33, 34, 35, 36, 37, 38, 39, 40, 41, 42, 43, 44, 45, 46, 47, 48, 49, 50, 51, 52, 53, 54, 55, 56, 57, 58, 59, 60, 61, 62, 63, 64, 65, 66, 67, 68, 69, 70, 71, 72, 73, 74, 75, 76, 77] (by decide +kernel) (by decide +kernel)
set_option maxRecDepth 20000 in
theorem gX5_ifOpened_X5_opened : GoodIn wsX5_ifOpened (wsV RX5 200 RX5 yX5_opened wsX5_opened) := goodIn_app (goodIn_of _ (by decide +kernel)) ggX5_ifOpened_X5_opened
theorem dX5_ifOpened_0 : decode cX5_ifOpened 0 = .ok (.aload_n 0, 1) := by decide +kernel
theorem dX5_ifOpened_1 : decode cX5_ifOpened 1 = .ok (.iload_n 1, 1) := by decide +kernel
theorem dX5_ifOpened_2 : decode cX5_ifOpened 2 = .ok (.invokestatic 83, 3) := by decide +kernel
theorem dX5_ifOpened_5 : decode cX5_ifOpened 5 = .ok (.ifCond .ne 7, 3) := by decide +kernel
theorem dX5_ifOpened_8 : decode cX5_ifOpened 8 = .ok (.iconst 1, 1) := by decide +kernel
theorem dX5_ifOpened_9 : decode cX5_ifOpened 9 = .ok (.goto 17, 3) := by decide +kernel
theorem dX5_ifOpened_12 : decode cX5_ifOpened 12 = .ok (.iload_n 2, 1) := by decide +kernel
theorem dX5_ifOpened_13 : decode cX5_ifOpened 13 = .ok (.iconst 0, 1) := by decide +kernel
theorem dX5_ifOpened_14 : decode cX5_ifOpened 14 = .ok (.iconst 1, 1) := by decide +kernel
theorem dX5_ifOpened_15 : decode cX5_ifOpened 15 = .ok (.invokestatic 32, 3) := by decide +kernel
theorem dX5_ifOpened_18 : decode cX5_ifOpened 18 = .ok (.ifCond .ne 7, 3) := by decide +kernel
theorem dX5_ifOpened_21 : decode cX5_ifOpened 21 = .ok (.iconst 2, 1) := by decide +kernel
theorem dX5_ifOpened_22 : decode cX5_ifOpened 22 = .ok (.goto 4, 3) := by decide +kernel
theorem dX5_ifOpened_25 : decode cX5_ifOpened 25 = .ok (.iconst 0, 1) := by decide +kernel
theorem dX5_ifOpened_26 : decode cX5_ifOpened 26 = .ok (.invokevirtual 100, 3) := by decide +kernel
theorem dX5_ifOpened_29 : decode cX5_ifOpened 29 = .ok (.ifCond .eq 12, 3) := by decide +kernel
theorem dX5_ifOpened_32 : decode cX5_ifOpened 32 = .ok (.aload_n 0, 1) := by decide +kernel
theorem dX5_ifOpened_33 : decode cX5_ifOpened 33 = .ok (.iload_n 1, 1) := by decide +kernel
theorem dX5_ifOpened_34 : decode cX5_ifOpened 34 = .ok (.iload_n 2, 1) := by decide +kernel
theorem dX5_ifOpened_35 : decode cX5_ifOpened 35 = .ok (.invokevirtual 200, 3) := by decide +kernel
theorem dX5_ifOpened_38 : decode cX5_ifOpened 38 = .ok (.goto 4, 3) := by decide +kernel
theorem dX5_ifOpened_41 : decode cX5_ifOpened 41 = .ok (.iconst 0, 1) := by decide +kernel
theorem dX5_ifOpened_42 : decode cX5_ifOpened 42 = .ok (.ireturn, 1) := by decide +kernel
set_option maxRecDepth 20000 in
theorem ggX5_wouldBid_X5_shares : GoodIn wsX5_wouldBid wsX5_shares := goodIn_r _ [9, 10, 11, 4, 12, 13, 14, 8, 15, 16, 17, 18, 19, 20, 21, 22, 23, 24, 25, 26, 27, 1, 2, 3, 28, 29, 30, 31, 32, 33, 34, 35, 36, 37, 38, 39, 40, 41, 42, 43, 44, 49, 50, 51, 52, 53, 54, 55, 56, 57, 58, 59, 60, 61, 62, 63, 64, 65, 66] (by decide +kernel) (by decide +kernel)
set_option maxRecDepth 20000 in
theorem gX5_wouldBid_X5_shares : GoodIn wsX5_wouldBid (wsV RX5 77 RX5 yX5_shares wsX5_shares) := goodIn_app (goodIn_of _ (by decide +kernel)) ggX5_wouldBid_X5_shares
set_option maxRecDepth 20000 in
theorem ggX5_wouldBid_X5_gets : GoodIn wsX5_wouldBid wsX5_gets := goodIn_r _ [48, 11, 49, 50, 51, 52, 53, 54, 55, 56, 57, 58, 59, 60, 61, 62, 63, 64, 65, 66] (by decide +kernel) (by decide +kernel)
set_option maxRecDepth 20000 in
theorem gX5_wouldBid_X5_gets : GoodIn wsX5_wouldBid (wsV RX5 203 RX5 yX5_gets wsX5_gets) := goodIn_app (goodIn_of _ (by decide +kernel)) ggX5_wouldBid_X5_gets
theorem dX5_wouldBid_0 : decode cX5_wouldBid 0 = .ok (.aload_n 0, 1) := by decide +kernel
theorem dX5_wouldBid_1 : decode cX5_wouldBid 1 = .ok (.iload_n 1, 1) := by decide +kernel
theorem dX5_wouldBid_2 : decode cX5_wouldBid 2 = .ok (.putfield 16, 3) := by decide +kernel
theorem dX5_wouldBid_5 : decode cX5_wouldBid 5 = .ok (.aload_n 0, 1) := by decide +kernel
theorem dX5_wouldBid_6 : decode cX5_wouldBid 6 = .ok (.iload_n 2, 1) := by decide +kernel
theorem dX5_wouldBid_7 : decode cX5_wouldBid 7 = .ok (.putfield 40, 3) := by decide +kernel
theorem dX5_wouldBid_10 : decode cX5_wouldBid 10 = .ok (.aload_n 0, 1) := by decide +kernel
theorem dX5_wouldBid_11 : decode cX5_wouldBid 11 = .ok (.iload_n 3, 1) := by decide +kernel
theorem dX5_wouldBid_12 : decode cX5_wouldBid 12 = .ok (.putfield 43, 3) := by decide +kernel
theorem dX5_wouldBid_15 : decode cX5_wouldBid 15 = .ok (.aload_n 0, 1) := by decide +kernel
theorem dX5_wouldBid_16 : decode cX5_wouldBid 16 = .ok (.invokevirtual 77, 3) := by decide +kernel
theorem dX5_wouldBid_19 : decode cX5_wouldBid 19 = .ok (.aload_n 0, 1) := by decide +kernel
theorem dX5_wouldBid_20 : decode cX5_wouldBid 20 = .ok (.iconst (-1), 1) := by decide +kernel
theorem dX5_wouldBid_21 : decode cX5_wouldBid 21 = .ok (.putfield 16, 3) := by decide +kernel
theorem dX5_wouldBid_24 : decode cX5_wouldBid 24 = .ok (.aload_n 0, 1) := by decide +kernel
theorem dX5_wouldBid_25 : decode cX5_wouldBid 25 = .ok (.iload_n 1, 1) := by decide +kernel
theorem dX5_wouldBid_26 : decode cX5_wouldBid 26 = .ok (.invokevirtual 203, 3) := by decide +kernel
theorem dX5_wouldBid_29 : decode cX5_wouldBid 29 = .ok (.istore 5, 2) := by decide +kernel
theorem dX5_wouldBid_31 : decode cX5_wouldBid 31 = .ok (.iload 4, 2) := by decide +kernel
theorem dX5_wouldBid_33 : decode cX5_wouldBid 33 = .ok (.ifCond .eq 9, 3) := by decide +kernel
theorem dX5_wouldBid_36 : decode cX5_wouldBid 36 = .ok (.iload 5, 2) := by decide +kernel
theorem dX5_wouldBid_38 : decode cX5_wouldBid 38 = .ok (.iconst (-1), 1) := by decide +kernel
theorem dX5_wouldBid_39 : decode cX5_wouldBid 39 = .ok (.if_icmp .ne 8, 3) := by decide +kernel
theorem dX5_wouldBid_42 : decode cX5_wouldBid 42 = .ok (.iload 5, 2) := by decide +kernel
theorem dX5_wouldBid_44 : decode cX5_wouldBid 44 = .ok (.goto 10, 3) := by decide +kernel
theorem dX5_wouldBid_47 : decode cX5_wouldBid 47 = .ok (.aload_n 0, 1) := by decide +kernel
theorem dX5_wouldBid_48 : decode cX5_wouldBid 48 = .ok (.getfield 26, 3) := by decide +kernel
theorem dX5_wouldBid_51 : decode cX5_wouldBid 51 = .ok (.iload 5, 2) := by decide +kernel
theorem dX5_wouldBid_53 : decode cX5_wouldBid 53 = .ok (.iaload, 1) := by decide +kernel
theorem dX5_wouldBid_54 : decode cX5_wouldBid 54 = .ok (.ireturn, 1) := by decide +kernel
set_option maxRecDepth 20000 in
theorem ggX5_ifBid_X5_isOne : GoodIn wsX5_ifBid wsX5_isOne := goodIn_r _ [4, 5, 6, 3, 7] (by decide +kernel) (by decide +kernel)
set_option maxRecDepth 20000 in
theorem gX5_ifBid_X5_isOne : GoodIn wsX5_ifBid (va_wsS RX5 83 yX5_isOne wsX5_isOne) := goodIn_app (goodIn_of _ (by decide +kernel)) ggX5_ifBid_X5_isOne
set_option maxRecDepth 20000 in
theorem ggX5_ifBid_X5_isAmount : GoodIn wsX5_ifBid wsX5_isAmount := goodIn_r _ [10, 5, 6, 3, 7] (by decide +kernel) (by decide +kernel)
set_option maxRecDepth 20000 in
theorem gX5_ifBid_X5_isAmount : GoodIn wsX5_ifBid (va_wsS RX5 106 yX5_isAmount wsX5_isAmount) := goodIn_app (goodIn_of _ (by decide +kernel)) ggX5_ifBid_X5_isAmount
set_option maxRecDepth 20000 in
theorem ggX5_ifBid_X5_in : GoodIn wsX5_ifBid wsX5_in := goodIn_r _ [7] (by decide +kernel) (by decide +kernel)
set_option maxRecDepth 20000 in
theorem gX5_ifBid_X5_in : GoodIn wsX5_ifBid (va_wsS RX5 32 yX5_in wsX5_in) := goodIn_app (goodIn_of _ (by decide +kernel)) ggX5_ifBid_X5_in
set_option maxRecDepth 20000 in
theorem ggX5_ifBid_X5_holds : GoodIn wsX5_ifBid wsX5_holds := goodIn_r _ [14, 15, 67, 68, 69, 70, 71, 72, 73, 74, 75, 76, 77, 78, 79, 80, 81, 82, 83, 84] (by decide +kernel) (by decide +kernel)
set_option maxRecDepth 20000 in
theorem gX5_ifBid_X5_holds : GoodIn wsX5_ifBid (wsV RX5 100 RX5 yX5_holds wsX5_holds) := goodIn_app (goodIn_of _ (by decide +kernel)) ggX5_ifBid_X5_holds
set_option maxRecDepth 20000 in
theorem ggX5_ifBid_X5_wouldBid : GoodIn wsX5_ifBid wsX5_wouldBid := goodIn_r _ [19, 20, 21, 22, 23, 24, 25, 26, 3, 27, 28, 29, 30, 31, 32, 33, 34, 35, 36, 37, 38, 39, 40, 41, 42, 43, 44, 45, 46, 47, 48, 49, 50, 51, 52, 53, 54, 55, 56, 57, 58, 59, 60, 61, 62, 63, 64, 65, 66, 67, 68, 69, 70, 71, 72, 73, 74, 75, 76, 77, 78, 79, 80, 81, 82, 83, 84] (by decide +kernel) (by decide +kernel)
set_option maxRecDepth 20000 in
theorem gX5_ifBid_X5_wouldBid : GoodIn wsX5_ifBid (wsV RX5 206 RX5 yX5_wouldBid wsX5_wouldBid) := goodIn_app (goodIn_of _ (by decide +kernel)) ggX5_ifBid_X5_wouldBid
theorem dX5_ifBid_0 : decode cX5_ifBid 0 = .ok (.iload_n 1, 1) := by decide +kernel
theorem dX5_ifBid_1 : decode cX5_ifBid 1 = .ok (.invokestatic 83, 3) := by decide +kernel
theorem dX5_ifBid_4 : decode cX5_ifBid 4 = .ok (.ifCond .eq 14, 3) := by decide +kernel
theorem dX5_ifBid_7 : decode cX5_ifBid 7 = .ok (.iload_n 2, 1) := by decide +kernel
theorem dX5_ifBid_8 : decode cX5_ifBid 8 = .ok (.invokestatic 83, 3) := by decide +kernel
theorem dX5_ifBid_11 : decode cX5_ifBid 11 = .ok (.ifCond .eq 7, 3) := by decide +kernel
theorem dX5_ifBid_14 : decode cX5_ifBid 14 = .ok (.iconst 1, 1) := by decide +kernel
theorem dX5_ifBid_15 : decode cX5_ifBid 15 = .ok (.goto 4, 3) := by decide +kernel
theorem dX5_ifBid_18 : decode cX5_ifBid 18 = .ok (.iconst 0, 1) := by decide +kernel
theorem dX5_ifBid_19 : decode cX5_ifBid 19 = .ok (.istore 5, 2) := by decide +kernel
theorem dX5_ifBid_21 : decode cX5_ifBid 21 = .ok (.aload_n 0, 1) := by decide +kernel
theorem dX5_ifBid_22 : decode cX5_ifBid 22 = .ok (.iload 5, 2) := by decide +kernel
theorem dX5_ifBid_24 : decode cX5_ifBid 24 = .ok (.ifCond .ne 7, 3) := by decide +kernel
theorem dX5_ifBid_27 : decode cX5_ifBid 27 = .ok (.iconst 1, 1) := by decide +kernel
theorem dX5_ifBid_28 : decode cX5_ifBid 28 = .ok (.goto 25, 3) := by decide +kernel
theorem dX5_ifBid_31 : decode cX5_ifBid 31 = .ok (.iload_n 3, 1) := by decide +kernel
theorem dX5_ifBid_32 : decode cX5_ifBid 32 = .ok (.invokestatic 106, 3) := by decide +kernel
theorem dX5_ifBid_35 : decode cX5_ifBid 35 = .ok (.ifCond .eq 13, 3) := by decide +kernel
theorem dX5_ifBid_38 : decode cX5_ifBid 38 = .ok (.iload 4, 2) := by decide +kernel
theorem dX5_ifBid_40 : decode cX5_ifBid 40 = .ok (.iconst 0, 1) := by decide +kernel
theorem dX5_ifBid_41 : decode cX5_ifBid 41 = .ok (.iconst 1, 1) := by decide +kernel
theorem dX5_ifBid_42 : decode cX5_ifBid 42 = .ok (.invokestatic 32, 3) := by decide +kernel
theorem dX5_ifBid_45 : decode cX5_ifBid 45 = .ok (.ifCond .ne 7, 3) := by decide +kernel
theorem dX5_ifBid_48 : decode cX5_ifBid 48 = .ok (.iconst 2, 1) := by decide +kernel
theorem dX5_ifBid_49 : decode cX5_ifBid 49 = .ok (.goto 4, 3) := by decide +kernel
theorem dX5_ifBid_52 : decode cX5_ifBid 52 = .ok (.iconst 0, 1) := by decide +kernel
theorem dX5_ifBid_53 : decode cX5_ifBid 53 = .ok (.invokevirtual 100, 3) := by decide +kernel
theorem dX5_ifBid_56 : decode cX5_ifBid 56 = .ok (.ifCond .eq 15, 3) := by decide +kernel
theorem dX5_ifBid_59 : decode cX5_ifBid 59 = .ok (.aload_n 0, 1) := by decide +kernel
theorem dX5_ifBid_60 : decode cX5_ifBid 60 = .ok (.iload_n 1, 1) := by decide +kernel
theorem dX5_ifBid_61 : decode cX5_ifBid 61 = .ok (.iload_n 2, 1) := by decide +kernel
theorem dX5_ifBid_62 : decode cX5_ifBid 62 = .ok (.iload_n 3, 1) := by decide +kernel
theorem dX5_ifBid_63 : decode cX5_ifBid 63 = .ok (.iload 4, 2) := by decide +kernel
theorem dX5_ifBid_65 : decode cX5_ifBid 65 = .ok (.invokevirtual 206, 3) := by decide +kernel
theorem dX5_ifBid_68 : decode cX5_ifBid 68 = .ok (.goto 4, 3) := by decide +kernel
theorem dX5_ifBid_71 : decode cX5_ifBid 71 = .ok (.iconst 0, 1) := by decide +kernel
theorem dX5_ifBid_72 : decode cX5_ifBid 72 = .ok (.ireturn, 1) := by decide +kernel
set_option maxRecDepth 20000 in
theorem ggX5_leastOf_X5_wouldBid : GoodIn wsX5_leastOf wsX5_wouldBid := goodIn_r _ [5, 6, 7, 8, 9, 10, 11, 12, 4, 13, 14, 15, 16, 17, 18, 19, 20, 21, 22, 23, 24, 25, 26, 27, 28, 29, 30, 31, 32, 33, 34, 35, 36, 37, 38, 39, 40, 41, 42, 43, 44, 45, 46, 47, 48, 49, 50, 51, 52, 53, 54, 55, 56, 57, 58, 59, 60, 61, 62, 63, 64, 65, 66, 67, 68, 69, 70] (by decide +kernel) (by decide +kernel)
set_option maxRecDepth 20000 in
theorem gX5_leastOf_X5_wouldBid : GoodIn wsX5_leastOf (wsV RX5 206 RX5 yX5_wouldBid wsX5_wouldBid) := goodIn_app (goodIn_of _ (by decide +kernel)) ggX5_leastOf_X5_wouldBid
theorem dX5_leastOf_0 : decode cX5_leastOf 0 = .ok (.iconst 1, 1) := by decide +kernel
theorem dX5_leastOf_1 : decode cX5_leastOf 1 = .ok (.istore_n 3, 1) := by decide +kernel
theorem dX5_leastOf_2 : decode cX5_leastOf 2 = .ok (.iload_n 3, 1) := by decide +kernel
theorem dX5_leastOf_3 : decode cX5_leastOf 3 = .ok (.bipush 99, 2) := by decide +kernel
theorem dX5_leastOf_5 : decode cX5_leastOf 5 = .ok (.if_icmp .gt 23, 3) := by decide +kernel
theorem dX5_leastOf_8 : decode cX5_leastOf 8 = .ok (.aload_n 0, 1) := by decide +kernel
theorem dX5_leastOf_9 : decode cX5_leastOf 9 = .ok (.iload_n 1, 1) := by decide +kernel
theorem dX5_leastOf_10 : decode cX5_leastOf 10 = .ok (.iload_n 2, 1) := by decide +kernel
theorem dX5_leastOf_11 : decode cX5_leastOf 11 = .ok (.iload_n 3, 1) := by decide +kernel
theorem dX5_leastOf_12 : decode cX5_leastOf 12 = .ok (.iconst 0, 1) := by decide +kernel
theorem dX5_leastOf_13 : decode cX5_leastOf 13 = .ok (.invokevirtual 206, 3) := by decide +kernel
theorem dX5_leastOf_16 : decode cX5_leastOf 16 = .ok (.iload_n 2, 1) := by decide +kernel
theorem dX5_leastOf_17 : decode cX5_leastOf 17 = .ok (.if_icmp .ne 5, 3) := by decide +kernel
theorem dX5_leastOf_20 : decode cX5_leastOf 20 = .ok (.iload_n 3, 1) := by decide +kernel
theorem dX5_leastOf_21 : decode cX5_leastOf 21 = .ok (.ireturn, 1) := by decide +kernel
theorem dX5_leastOf_22 : decode cX5_leastOf 22 = .ok (.iinc 3 1, 3) := by decide +kernel
theorem dX5_leastOf_25 : decode cX5_leastOf 25 = .ok (.goto (-23), 3) := by decide +kernel
theorem dX5_leastOf_28 : decode cX5_leastOf 28 = .ok (.iconst (-1), 1) := by decide +kernel
theorem dX5_leastOf_29 : decode cX5_leastOf 29 = .ok (.ireturn, 1) := by decide +kernel
set_option maxRecDepth 20000 in
theorem ggX5_least_X5_isOne : GoodIn wsX5_least wsX5_isOne := goodIn_r _ [4, 5, 6, 3, 7] (by decide +kernel) (by decide +kernel)
set_option maxRecDepth 20000 in
theorem gX5_least_X5_isOne : GoodIn wsX5_least (va_wsS RX5 83 yX5_isOne wsX5_isOne) := goodIn_app (goodIn_of _ (by decide +kernel)) ggX5_least_X5_isOne
set_option maxRecDepth 20000 in
theorem ggX5_least_X5_holds : GoodIn wsX5_least wsX5_holds := goodIn_r _ [11, 12, 68, 69, 70, 71, 72, 73, 74, 75, 76, 77, 78, 79, 80, 81, 82, 83, 84, 85] (by decide +kernel) (by decide +kernel)
set_option maxRecDepth 20000 in
theorem gX5_least_X5_holds : GoodIn wsX5_least (wsV RX5 100 RX5 yX5_holds wsX5_holds) := goodIn_app (goodIn_of _ (by decide +kernel)) ggX5_least_X5_holds
set_option maxRecDepth 20000 in
theorem ggX5_least_X5_leastOf : GoodIn wsX5_least wsX5_leastOf := goodIn_r _ [16, 17, 18, 19, 3, 20, 21, 22, 23, 24, 25, 26, 27, 28, 29, 30, 31, 32, 33, 34, 35, 36, 37, 38, 39, 40, 41, 42, 43, 44, 45, 46, 47, 48, 49, 50, 51, 52, 53, 54, 55, 56, 57, 58, 59, 60, 61, 62, 63, 64, 65, 66, 67, 68, 69, 70, 71, 72, 73, 74, 75, 76, 77, 78, 79, 80, 81, 82, 83, 84, 85] (by decide +kernel) (by decide +kernel)
set_option maxRecDepth 20000 in
theorem gX5_least_X5_leastOf : GoodIn wsX5_least (wsV RX5 210 RX5 yX5_leastOf wsX5_leastOf) := goodIn_app (goodIn_of _ (by decide +kernel)) ggX5_least_X5_leastOf
theorem dX5_least_0 : decode cX5_least 0 = .ok (.aload_n 0, 1) := by decide +kernel
theorem dX5_least_1 : decode cX5_least 1 = .ok (.iload_n 1, 1) := by decide +kernel
theorem dX5_least_2 : decode cX5_least 2 = .ok (.invokestatic 83, 3) := by decide +kernel
theorem dX5_least_5 : decode cX5_least 5 = .ok (.ifCond .eq 14, 3) := by decide +kernel
theorem dX5_least_8 : decode cX5_least 8 = .ok (.iload_n 2, 1) := by decide +kernel
theorem dX5_least_9 : decode cX5_least 9 = .ok (.invokestatic 83, 3) := by decide +kernel
theorem dX5_least_12 : decode cX5_least 12 = .ok (.ifCond .eq 7, 3) := by decide +kernel
theorem dX5_least_15 : decode cX5_least 15 = .ok (.iconst 0, 1) := by decide +kernel
theorem dX5_least_16 : decode cX5_least 16 = .ok (.goto 4, 3) := by decide +kernel
theorem dX5_least_19 : decode cX5_least 19 = .ok (.iconst 1, 1) := by decide +kernel
theorem dX5_least_20 : decode cX5_least 20 = .ok (.invokevirtual 100, 3) := by decide +kernel
theorem dX5_least_23 : decode cX5_least 23 = .ok (.ifCond .eq 12, 3) := by decide +kernel
theorem dX5_least_26 : decode cX5_least 26 = .ok (.aload_n 0, 1) := by decide +kernel
theorem dX5_least_27 : decode cX5_least 27 = .ok (.iload_n 1, 1) := by decide +kernel
theorem dX5_least_28 : decode cX5_least 28 = .ok (.iload_n 2, 1) := by decide +kernel
theorem dX5_least_29 : decode cX5_least 29 = .ok (.invokevirtual 210, 3) := by decide +kernel
theorem dX5_least_32 : decode cX5_least 32 = .ok (.goto 4, 3) := by decide +kernel
theorem dX5_least_35 : decode cX5_least 35 = .ok (.iconst 0, 1) := by decide +kernel
theorem dX5_least_36 : decode cX5_least 36 = .ok (.ireturn, 1) := by decide +kernel
set_option maxRecDepth 20000 in
theorem ggX5_keen_X5_worthOf : GoodIn wsX5_keen wsX5_worthOf := goodIn_r _ [5, 6, 7, 8, 9, 4, 10, 11, 12, 13, 14, 15, 16, 17, 18, 19, 20, 21, 22, 23, 24, 25, 26, 27, 28, 29, 30, 31, 32, 33, 34, 35, 36, 37, 38, 39, 40, 41, 42, 43, 44, 45, 46, 47, 48, 49, 50, 51, 52, 53, 54, 55, 56] (by decide +kernel) (by decide +kernel)
set_option maxRecDepth 20000 in
theorem gX5_keen_X5_worthOf : GoodIn wsX5_keen (wsV RX5 66 RX5 yX5_worthOf wsX5_worthOf) := goodIn_app (goodIn_of _ (by decide +kernel)) ggX5_keen_X5_worthOf
theorem dX5_keen_0 : decode cX5_keen 0 = .ok (.iconst 0, 1) := by decide +kernel
theorem dX5_keen_1 : decode cX5_keen 1 = .ok (.istore_n 1, 1) := by decide +kernel
theorem dX5_keen_2 : decode cX5_keen 2 = .ok (.aload_n 0, 1) := by decide +kernel
theorem dX5_keen_3 : decode cX5_keen 3 = .ok (.iconst 0, 1) := by decide +kernel
theorem dX5_keen_4 : decode cX5_keen 4 = .ok (.invokevirtual 66, 3) := by decide +kernel
theorem dX5_keen_7 : decode cX5_keen 7 = .ok (.istore_n 2, 1) := by decide +kernel
theorem dX5_keen_8 : decode cX5_keen 8 = .ok (.iconst 1, 1) := by decide +kernel
theorem dX5_keen_9 : decode cX5_keen 9 = .ok (.istore_n 3, 1) := by decide +kernel
theorem dX5_keen_10 : decode cX5_keen 10 = .ok (.iload_n 3, 1) := by decide +kernel
theorem dX5_keen_11 : decode cX5_keen 11 = .ok (.bipush 6, 2) := by decide +kernel
theorem dX5_keen_13 : decode cX5_keen 13 = .ok (.if_icmp .ge 41, 3) := by decide +kernel
theorem dX5_keen_16 : decode cX5_keen 16 = .ok (.aload_n 0, 1) := by decide +kernel
theorem dX5_keen_17 : decode cX5_keen 17 = .ok (.iload_n 3, 1) := by decide +kernel
theorem dX5_keen_18 : decode cX5_keen 18 = .ok (.invokevirtual 66, 3) := by decide +kernel
theorem dX5_keen_21 : decode cX5_keen 21 = .ok (.istore 4, 2) := by decide +kernel
theorem dX5_keen_23 : decode cX5_keen 23 = .ok (.iload 4, 2) := by decide +kernel
theorem dX5_keen_25 : decode cX5_keen 25 = .ok (.iload_n 2, 1) := by decide +kernel
theorem dX5_keen_26 : decode cX5_keen 26 = .ok (.if_icmp .ge 7, 3) := by decide +kernel
theorem dX5_keen_29 : decode cX5_keen 29 = .ok (.iload_n 3, 1) := by decide +kernel
theorem dX5_keen_30 : decode cX5_keen 30 = .ok (.goto 4, 3) := by decide +kernel
theorem dX5_keen_33 : decode cX5_keen 33 = .ok (.iload_n 1, 1) := by decide +kernel
theorem dX5_keen_34 : decode cX5_keen 34 = .ok (.istore_n 1, 1) := by decide +kernel
theorem dX5_keen_35 : decode cX5_keen 35 = .ok (.iload 4, 2) := by decide +kernel
theorem dX5_keen_37 : decode cX5_keen 37 = .ok (.iload_n 2, 1) := by decide +kernel
theorem dX5_keen_38 : decode cX5_keen 38 = .ok (.if_icmp .ge 8, 3) := by decide +kernel
theorem dX5_keen_41 : decode cX5_keen 41 = .ok (.iload 4, 2) := by decide +kernel
theorem dX5_keen_43 : decode cX5_keen 43 = .ok (.goto 4, 3) := by decide +kernel
theorem dX5_keen_46 : decode cX5_keen 46 = .ok (.iload_n 2, 1) := by decide +kernel
theorem dX5_keen_47 : decode cX5_keen 47 = .ok (.istore_n 2, 1) := by decide +kernel
theorem dX5_keen_48 : decode cX5_keen 48 = .ok (.iinc 3 1, 3) := by decide +kernel
theorem dX5_keen_51 : decode cX5_keen 51 = .ok (.goto (-41), 3) := by decide +kernel
theorem dX5_keen_54 : decode cX5_keen 54 = .ok (.iload_n 1, 1) := by decide +kernel
theorem dX5_keen_55 : decode cX5_keen 55 = .ok (.ireturn, 1) := by decide +kernel
set_option maxRecDepth 20000 in
theorem ggX5_keenest_X5_keen : GoodIn wsX5_keenest wsX5_keen := goodIn_r _ [6, 7, 8, 9, 5, 10, 11, 12, 13, 14, 15, 16, 17, 18, 19, 20, 21, 22, 23, 24, 25, 26, 27, 28, 29, 30, 31, 32, 33, 34, 35, 36, 37, 38, 39, 40, 41, 42, 43, 44, 45, 46, 47, 48, 49, 50, 51, 52, 53, 54, 55, 56, 57, 58, 59, 60, 61] (by decide +kernel) (by decide +kernel)
set_option maxRecDepth 20000 in
theorem gX5_keenest_X5_keen : GoodIn wsX5_keenest (wsV RX5 213 RX5 yX5_keen wsX5_keen) := goodIn_app (goodIn_of _ (by decide +kernel)) ggX5_keenest_X5_keen
theorem dX5_keenest_0 : decode cX5_keenest 0 = .ok (.aload_n 0, 1) := by decide +kernel
theorem dX5_keenest_1 : decode cX5_keenest 1 = .ok (.iconst 0, 1) := by decide +kernel
theorem dX5_keenest_2 : decode cX5_keenest 2 = .ok (.putfield 29, 3) := by decide +kernel
theorem dX5_keenest_5 : decode cX5_keenest 5 = .ok (.aload_n 0, 1) := by decide +kernel
theorem dX5_keenest_6 : decode cX5_keenest 6 = .ok (.invokevirtual 213, 3) := by decide +kernel
theorem dX5_keenest_9 : decode cX5_keenest 9 = .ok (.ireturn, 1) := by decide +kernel
theorem dX5_share_0 : decode cX5_share 0 = .ok (.aload_n 0, 1) := by decide +kernel
theorem dX5_share_1 : decode cX5_share 1 = .ok (.getfield 7, 3) := by decide +kernel
theorem dX5_share_4 : decode cX5_share 4 = .ok (.iconst 3, 1) := by decide +kernel
theorem dX5_share_5 : decode cX5_share 5 = .ok (.iaload, 1) := by decide +kernel
theorem dX5_share_6 : decode cX5_share 6 = .ok (.i2d, 1) := by decide +kernel
theorem dX5_share_7 : decode cX5_share 7 = .ok (.aload_n 0, 1) := by decide +kernel
theorem dX5_share_8 : decode cX5_share 8 = .ok (.getfield 7, 3) := by decide +kernel
theorem dX5_share_11 : decode cX5_share 11 = .ok (.iconst 4, 1) := by decide +kernel
theorem dX5_share_12 : decode cX5_share 12 = .ok (.iaload, 1) := by decide +kernel
theorem dX5_share_13 : decode cX5_share 13 = .ok (.i2d, 1) := by decide +kernel
theorem dX5_share_14 : decode cX5_share 14 = .ok (.ddiv, 1) := by decide +kernel
theorem dX5_share_15 : decode cX5_share 15 = .ok (.dreturn, 1) := by decide +kernel
set_option maxRecDepth 20000 in
theorem ggX5_chestShare_X5_share : GoodIn wsX5_chestShare wsX5_share := goodIn_r _ [6, 7, 8, 9, 10, 11, 12, 13, 14, 15, 16, 17, 18, 19, 20, 21, 22, 23, 24, 25] (by decide +kernel) (by decide +kernel)
set_option maxRecDepth 20000 in
theorem gX5_chestShare_X5_share : GoodIn wsX5_chestShare (wsV RX5 216 RX5 yX5_share wsX5_share) := goodIn_app (goodIn_of _ (by decide +kernel)) ggX5_chestShare_X5_share
theorem dX5_chestShare_0 : decode cX5_chestShare 0 = .ok (.aload_n 0, 1) := by decide +kernel
theorem dX5_chestShare_1 : decode cX5_chestShare 1 = .ok (.iconst 0, 1) := by decide +kernel
theorem dX5_chestShare_2 : decode cX5_chestShare 2 = .ok (.putfield 29, 3) := by decide +kernel
theorem dX5_chestShare_5 : decode cX5_chestShare 5 = .ok (.aload_n 0, 1) := by decide +kernel
theorem dX5_chestShare_6 : decode cX5_chestShare 6 = .ok (.invokevirtual 216, 3) := by decide +kernel
theorem dX5_chestShare_9 : decode cX5_chestShare 9 = .ok (.dreturn, 1) := by decide +kernel
theorem dX5_mean_0 : decode cX5_mean 0 = .ok (.aload_n 0, 1) := by decide +kernel
theorem dX5_mean_1 : decode cX5_mean 1 = .ok (.getfield 7, 3) := by decide +kernel
theorem dX5_mean_4 : decode cX5_mean 4 = .ok (.bipush 7, 2) := by decide +kernel
theorem dX5_mean_6 : decode cX5_mean 6 = .ok (.iaload, 1) := by decide +kernel
theorem dX5_mean_7 : decode cX5_mean 7 = .ok (.ifCond .ne 7, 3) := by decide +kernel
theorem dX5_mean_10 : decode cX5_mean 10 = .ok (.fconst 0, 1) := by decide +kernel
theorem dX5_mean_11 : decode cX5_mean 11 = .ok (.goto 20, 3) := by decide +kernel
theorem dX5_mean_14 : decode cX5_mean 14 = .ok (.aload_n 0, 1) := by decide +kernel
theorem dX5_mean_15 : decode cX5_mean 15 = .ok (.getfield 7, 3) := by decide +kernel
theorem dX5_mean_18 : decode cX5_mean 18 = .ok (.bipush 6, 2) := by decide +kernel
theorem dX5_mean_20 : decode cX5_mean 20 = .ok (.iaload, 1) := by decide +kernel
theorem dX5_mean_21 : decode cX5_mean 21 = .ok (.i2f, 1) := by decide +kernel
theorem dX5_mean_22 : decode cX5_mean 22 = .ok (.aload_n 0, 1) := by decide +kernel
theorem dX5_mean_23 : decode cX5_mean 23 = .ok (.getfield 7, 3) := by decide +kernel
theorem dX5_mean_26 : decode cX5_mean 26 = .ok (.bipush 7, 2) := by decide +kernel
theorem dX5_mean_28 : decode cX5_mean 28 = .ok (.iaload, 1) := by decide +kernel
theorem dX5_mean_29 : decode cX5_mean 29 = .ok (.i2f, 1) := by decide +kernel
theorem dX5_mean_30 : decode cX5_mean 30 = .ok (.fdiv, 1) := by decide +kernel
theorem dX5_mean_31 : decode cX5_mean 31 = .ok (.freturn, 1) := by decide +kernel
set_option maxRecDepth 20000 in
theorem ggX5_meanPrice_X5_mean : GoodIn wsX5_meanPrice wsX5_mean := goodIn_r _ [6, 7, 8, 9, 10, 11, 12, 13, 14, 15, 16, 17, 18, 19, 20, 21, 22, 23, 24, 25] (by decide +kernel) (by decide +kernel)
set_option maxRecDepth 20000 in
theorem gX5_meanPrice_X5_mean : GoodIn wsX5_meanPrice (wsV RX5 220 RX5 yX5_mean wsX5_mean) := goodIn_app (goodIn_of _ (by decide +kernel)) ggX5_meanPrice_X5_mean
theorem dX5_meanPrice_0 : decode cX5_meanPrice 0 = .ok (.aload_n 0, 1) := by decide +kernel
theorem dX5_meanPrice_1 : decode cX5_meanPrice 1 = .ok (.iconst 0, 1) := by decide +kernel
theorem dX5_meanPrice_2 : decode cX5_meanPrice 2 = .ok (.putfield 29, 3) := by decide +kernel
theorem dX5_meanPrice_5 : decode cX5_meanPrice 5 = .ok (.aload_n 0, 1) := by decide +kernel
theorem dX5_meanPrice_6 : decode cX5_meanPrice 6 = .ok (.invokevirtual 220, 3) := by decide +kernel
theorem dX5_meanPrice_9 : decode cX5_meanPrice 9 = .ok (.freturn, 1) := by decide +kernel
theorem dX5_mix_0 : decode cX5_mix 0 = .ok (.aload_n 0, 1) := by decide +kernel
theorem dX5_mix_1 : decode cX5_mix 1 = .ok (.ldc2_w 224, 3) := by decide +kernel
theorem dX5_mix_4 : decode cX5_mix 4 = .ok (.aload_n 0, 1) := by decide +kernel
theorem dX5_mix_5 : decode cX5_mix 5 = .ok (.getfield 226, 3) := by decide +kernel
theorem dX5_mix_8 : decode cX5_mix 8 = .ok (.lmul, 1) := by decide +kernel
theorem dX5_mix_9 : decode cX5_mix 9 = .ok (.lload_n 1, 1) := by decide +kernel
theorem dX5_mix_10 : decode cX5_mix 10 = .ok (.ladd, 1) := by decide +kernel
theorem dX5_mix_11 : decode cX5_mix 11 = .ok (.putfield 226, 3) := by decide +kernel
theorem dX5_mix_14 : decode cX5_mix 14 = .ok (.return_, 1) := by decide +kernel
theorem dX5_bits_0 : decode cX5_bits 0 = .ok (.dload_n 0, 1) := by decide +kernel
theorem dX5_bits_1 : decode cX5_bits 1 = .ok (.dconst 0, 1) := by decide +kernel
theorem dX5_bits_2 : decode cX5_bits 2 = .ok (.dcmp .l, 1) := by decide +kernel
theorem dX5_bits_3 : decode cX5_bits 3 = .ok (.ifCond .ne 5, 3) := by decide +kernel
theorem dX5_bits_6 : decode cX5_bits 6 = .ok (.lconst 0, 1) := by decide +kernel
theorem dX5_bits_7 : decode cX5_bits 7 = .ok (.lreturn, 1) := by decide +kernel
theorem dX5_bits_8 : decode cX5_bits 8 = .ok (.dload_n 0, 1) := by decide +kernel
theorem dX5_bits_9 : decode cX5_bits 9 = .ok (.dstore_n 2, 1) := by decide +kernel
theorem dX5_bits_10 : decode cX5_bits 10 = .ok (.ldc2_w 230, 3) := by decide +kernel
theorem dX5_bits_13 : decode cX5_bits 13 = .ok (.lstore 4, 2) := by decide +kernel
theorem dX5_bits_15 : decode cX5_bits 15 = .ok (.dload_n 2, 1) := by decide +kernel
theorem dX5_bits_16 : decode cX5_bits 16 = .ok (.dconst 1, 1) := by decide +kernel
theorem dX5_bits_17 : decode cX5_bits 17 = .ok (.dcmp .g, 1) := by decide +kernel
theorem dX5_bits_18 : decode cX5_bits 18 = .ok (.ifCond .ge 18, 3) := by decide +kernel
theorem dX5_bits_21 : decode cX5_bits 21 = .ok (.dload_n 2, 1) := by decide +kernel
theorem dX5_bits_22 : decode cX5_bits 22 = .ok (.ldc2_w 232, 3) := by decide +kernel
theorem dX5_bits_25 : decode cX5_bits 25 = .ok (.dmul, 1) := by decide +kernel
theorem dX5_bits_26 : decode cX5_bits 26 = .ok (.dstore_n 2, 1) := by decide +kernel
theorem dX5_bits_27 : decode cX5_bits 27 = .ok (.lload 4, 2) := by decide +kernel
theorem dX5_bits_29 : decode cX5_bits 29 = .ok (.lconst 1, 1) := by decide +kernel
theorem dX5_bits_30 : decode cX5_bits 30 = .ok (.lsub, 1) := by decide +kernel
theorem dX5_bits_31 : decode cX5_bits 31 = .ok (.lstore 4, 2) := by decide +kernel
theorem dX5_bits_33 : decode cX5_bits 33 = .ok (.goto (-18), 3) := by decide +kernel
theorem dX5_bits_36 : decode cX5_bits 36 = .ok (.lload 4, 2) := by decide +kernel
theorem dX5_bits_38 : decode cX5_bits 38 = .ok (.ldc2_w 234, 3) := by decide +kernel
theorem dX5_bits_41 : decode cX5_bits 41 = .ok (.lmul, 1) := by decide +kernel
theorem dX5_bits_42 : decode cX5_bits 42 = .ok (.dload_n 2, 1) := by decide +kernel
theorem dX5_bits_43 : decode cX5_bits 43 = .ok (.dconst 1, 1) := by decide +kernel
theorem dX5_bits_44 : decode cX5_bits 44 = .ok (.dsub, 1) := by decide +kernel
theorem dX5_bits_45 : decode cX5_bits 45 = .ok (.ldc2_w 236, 3) := by decide +kernel
theorem dX5_bits_48 : decode cX5_bits 48 = .ok (.dmul, 1) := by decide +kernel
theorem dX5_bits_49 : decode cX5_bits 49 = .ok (.d2l, 1) := by decide +kernel
theorem dX5_bits_50 : decode cX5_bits 50 = .ok (.ladd, 1) := by decide +kernel
theorem dX5_bits_51 : decode cX5_bits 51 = .ok (.lreturn, 1) := by decide +kernel
theorem dX5_floatBits_0 : decode cX5_floatBits 0 = .ok (.fload_n 0, 1) := by decide +kernel
theorem dX5_floatBits_1 : decode cX5_floatBits 1 = .ok (.fconst 0, 1) := by decide +kernel
theorem dX5_floatBits_2 : decode cX5_floatBits 2 = .ok (.fcmp .l, 1) := by decide +kernel
theorem dX5_floatBits_3 : decode cX5_floatBits 3 = .ok (.ifCond .ne 5, 3) := by decide +kernel
theorem dX5_floatBits_6 : decode cX5_floatBits 6 = .ok (.iconst 0, 1) := by decide +kernel
theorem dX5_floatBits_7 : decode cX5_floatBits 7 = .ok (.ireturn, 1) := by decide +kernel
theorem dX5_floatBits_8 : decode cX5_floatBits 8 = .ok (.fload_n 0, 1) := by decide +kernel
theorem dX5_floatBits_9 : decode cX5_floatBits 9 = .ok (.fstore_n 1, 1) := by decide +kernel
theorem dX5_floatBits_10 : decode cX5_floatBits 10 = .ok (.bipush 127, 2) := by decide +kernel
theorem dX5_floatBits_12 : decode cX5_floatBits 12 = .ok (.istore_n 2, 1) := by decide +kernel
theorem dX5_floatBits_13 : decode cX5_floatBits 13 = .ok (.fload_n 1, 1) := by decide +kernel
theorem dX5_floatBits_14 : decode cX5_floatBits 14 = .ok (.fconst 2, 1) := by decide +kernel
theorem dX5_floatBits_15 : decode cX5_floatBits 15 = .ok (.fcmp .l, 1) := by decide +kernel
theorem dX5_floatBits_16 : decode cX5_floatBits 16 = .ok (.ifCond .lt 13, 3) := by decide +kernel
theorem dX5_floatBits_19 : decode cX5_floatBits 19 = .ok (.fload_n 1, 1) := by decide +kernel
theorem dX5_floatBits_20 : decode cX5_floatBits 20 = .ok (.fconst 2, 1) := by decide +kernel
theorem dX5_floatBits_21 : decode cX5_floatBits 21 = .ok (.fdiv, 1) := by decide +kernel
theorem dX5_floatBits_22 : decode cX5_floatBits 22 = .ok (.fstore_n 1, 1) := by decide +kernel
theorem dX5_floatBits_23 : decode cX5_floatBits 23 = .ok (.iinc 2 1, 3) := by decide +kernel
theorem dX5_floatBits_26 : decode cX5_floatBits 26 = .ok (.goto (-13), 3) := by decide +kernel
theorem dX5_floatBits_29 : decode cX5_floatBits 29 = .ok (.fload_n 1, 1) := by decide +kernel
theorem dX5_floatBits_30 : decode cX5_floatBits 30 = .ok (.fconst 1, 1) := by decide +kernel
theorem dX5_floatBits_31 : decode cX5_floatBits 31 = .ok (.fcmp .g, 1) := by decide +kernel
theorem dX5_floatBits_32 : decode cX5_floatBits 32 = .ok (.ifCond .ge 13, 3) := by decide +kernel
theorem dX5_floatBits_35 : decode cX5_floatBits 35 = .ok (.fload_n 1, 1) := by decide +kernel
theorem dX5_floatBits_36 : decode cX5_floatBits 36 = .ok (.fconst 2, 1) := by decide +kernel
theorem dX5_floatBits_37 : decode cX5_floatBits 37 = .ok (.fmul, 1) := by decide +kernel
theorem dX5_floatBits_38 : decode cX5_floatBits 38 = .ok (.fstore_n 1, 1) := by decide +kernel
theorem dX5_floatBits_39 : decode cX5_floatBits 39 = .ok (.iinc 2 (-1), 3) := by decide +kernel
theorem dX5_floatBits_42 : decode cX5_floatBits 42 = .ok (.goto (-13), 3) := by decide +kernel
theorem dX5_floatBits_45 : decode cX5_floatBits 45 = .ok (.iload_n 2, 1) := by decide +kernel
theorem dX5_floatBits_46 : decode cX5_floatBits 46 = .ok (.ldc 238, 2) := by decide +kernel
theorem dX5_floatBits_48 : decode cX5_floatBits 48 = .ok (.imul, 1) := by decide +kernel
theorem dX5_floatBits_49 : decode cX5_floatBits 49 = .ok (.fload_n 1, 1) := by decide +kernel
theorem dX5_floatBits_50 : decode cX5_floatBits 50 = .ok (.fconst 1, 1) := by decide +kernel
theorem dX5_floatBits_51 : decode cX5_floatBits 51 = .ok (.fsub, 1) := by decide +kernel
theorem dX5_floatBits_52 : decode cX5_floatBits 52 = .ok (.ldc 239, 2) := by decide +kernel
theorem dX5_floatBits_54 : decode cX5_floatBits 54 = .ok (.fmul, 1) := by decide +kernel
theorem dX5_floatBits_55 : decode cX5_floatBits 55 = .ok (.f2i, 1) := by decide +kernel
theorem dX5_floatBits_56 : decode cX5_floatBits 56 = .ok (.iadd, 1) := by decide +kernel
theorem dX5_floatBits_57 : decode cX5_floatBits 57 = .ok (.ireturn, 1) := by decide +kernel
set_option maxRecDepth 20000 in
theorem ggX5_mixSpots_X5_ofSpot : GoodIn wsX5_mixSpots wsX5_ofSpot := goodIn_r _ [5, 6, 7, 8, 4, 9, 10, 11, 12, 13, 14, 15, 16, 17, 18, 19, 20, 21, 22, 83, 84, 85, 86, 87, 88, 89, 90, 91, 92, 93, 94, 95, 96, 97, 98, 99, 100] (by decide +kernel) (by decide +kernel)
set_option maxRecDepth 20000 in
theorem gX5_mixSpots_X5_ofSpot : GoodIn wsX5_mixSpots (wsV RX5 185 RX5 yX5_ofSpot wsX5_ofSpot) := goodIn_app (goodIn_of _ (by decide +kernel)) ggX5_mixSpots_X5_ofSpot
set_option maxRecDepth 20000 in
theorem ggX5_mixSpots_X5_mix : GoodIn wsX5_mixSpots wsX5_mix := goodIn_r _ [26, 27, 28, 83, 84, 85, 86, 87, 88, 89, 90, 91, 92, 93, 94, 95, 96, 97, 98, 99, 100] (by decide +kernel) (by decide +kernel)
set_option maxRecDepth 20000 in
theorem gX5_mixSpots_X5_mix : GoodIn wsX5_mixSpots (wsV RX5 240 RX5 yX5_mix wsX5_mix) := goodIn_app (goodIn_of _ (by decide +kernel)) ggX5_mixSpots_X5_mix
set_option maxRecDepth 20000 in
theorem ggX5_mixSpots_X5_opened : GoodIn wsX5_mixSpots wsX5_opened := goodIn_r _ [32, 33, 34, 35, 36, 37, 4, 38, 39, 40, 41, 42, 43, 44, 45, 46, 47, 48, 49, 50, 51, 52, 53, 54, 55, 56, 57, 58, 10, 15, 16, 17, 18, 19, 20, 21, 22, 6, 7, 8, 9, 59, 60, 61, 62, 83, 84, 85, 86, 87, 88, 89, 90, 91, 92, 93, 94, 95, 96, 97, 98, 99, 100] (by decide +kernel) (by decide +kernel)
set_option maxRecDepth 20000 in
theorem gX5_mixSpots_X5_opened : GoodIn wsX5_mixSpots (wsV RX5 200 RX5 yX5_opened wsX5_opened) := goodIn_app (goodIn_of _ (by decide +kernel)) ggX5_mixSpots_X5_opened
set_option maxRecDepth 20000 in
theorem ggX5_mixSpots_X5_ofBidder : GoodIn wsX5_mixSpots wsX5_ofBidder := goodIn_r _ [66, 11, 12, 13, 4, 14, 15, 16, 17, 18, 10, 19, 20, 21, 22, 67, 68, 69, 70, 6, 7, 8, 9, 59, 60, 61, 62, 83, 84, 85, 86, 87, 88, 89, 90, 91, 92, 93, 94, 95, 96, 97, 98, 99, 100] (by decide +kernel) (by decide +kernel)
set_option maxRecDepth 20000 in
theorem gX5_mixSpots_X5_ofBidder : GoodIn wsX5_mixSpots (wsV RX5 191 RX5 yX5_ofBidder wsX5_ofBidder) := goodIn_app (goodIn_of _ (by decide +kernel)) ggX5_mixSpots_X5_ofBidder
set_option maxRecDepth 20000 in
theorem ggX5_mixSpots_X5_ofBid : GoodIn wsX5_mixSpots wsX5_ofBid := goodIn_r _ [74, 10, 75, 76, 77, 4, 78, 15, 16, 17, 18, 19, 20, 21, 22, 59, 60, 61, 62, 79, 80, 81, 82, 83, 84, 85, 86, 87, 88, 89, 90, 91, 92, 93, 94, 95, 96, 97, 98, 99, 100] (by decide +kernel) (by decide +kernel)
set_option maxRecDepth 20000 in
theorem gX5_mixSpots_X5_ofBid : GoodIn wsX5_mixSpots (wsV RX5 194 RX5 yX5_ofBid wsX5_ofBid) := goodIn_app (goodIn_of _ (by decide +kernel)) ggX5_mixSpots_X5_ofBid
theorem dX5_mixSpots_0 : decode cX5_mixSpots 0 = .ok (.iconst 0, 1) := by decide +kernel
theorem dX5_mixSpots_1 : decode cX5_mixSpots 1 = .ok (.istore_n 1, 1) := by decide +kernel
theorem dX5_mixSpots_2 : decode cX5_mixSpots 2 = .ok (.iload_n 1, 1) := by decide +kernel
theorem dX5_mixSpots_3 : decode cX5_mixSpots 3 = .ok (.bipush 6, 2) := by decide +kernel
theorem dX5_mixSpots_5 : decode cX5_mixSpots 5 = .ok (.if_icmp .ge 56, 3) := by decide +kernel
theorem dX5_mixSpots_8 : decode cX5_mixSpots 8 = .ok (.iconst 0, 1) := by decide +kernel
theorem dX5_mixSpots_9 : decode cX5_mixSpots 9 = .ok (.istore_n 2, 1) := by decide +kernel
theorem dX5_mixSpots_10 : decode cX5_mixSpots 10 = .ok (.iload_n 2, 1) := by decide +kernel
theorem dX5_mixSpots_11 : decode cX5_mixSpots 11 = .ok (.bipush 6, 2) := by decide +kernel
theorem dX5_mixSpots_13 : decode cX5_mixSpots 13 = .ok (.if_icmp .ge 20, 3) := by decide +kernel
theorem dX5_mixSpots_16 : decode cX5_mixSpots 16 = .ok (.aload_n 0, 1) := by decide +kernel
theorem dX5_mixSpots_17 : decode cX5_mixSpots 17 = .ok (.aload_n 0, 1) := by decide +kernel
theorem dX5_mixSpots_18 : decode cX5_mixSpots 18 = .ok (.iload_n 1, 1) := by decide +kernel
theorem dX5_mixSpots_19 : decode cX5_mixSpots 19 = .ok (.iload_n 2, 1) := by decide +kernel
theorem dX5_mixSpots_20 : decode cX5_mixSpots 20 = .ok (.invokevirtual 185, 3) := by decide +kernel
theorem dX5_mixSpots_23 : decode cX5_mixSpots 23 = .ok (.i2l, 1) := by decide +kernel
theorem dX5_mixSpots_24 : decode cX5_mixSpots 24 = .ok (.invokevirtual 240, 3) := by decide +kernel
theorem dX5_mixSpots_27 : decode cX5_mixSpots 27 = .ok (.iinc 2 1, 3) := by decide +kernel
theorem dX5_mixSpots_30 : decode cX5_mixSpots 30 = .ok (.goto (-20), 3) := by decide +kernel
theorem dX5_mixSpots_33 : decode cX5_mixSpots 33 = .ok (.aload_n 0, 1) := by decide +kernel
theorem dX5_mixSpots_34 : decode cX5_mixSpots 34 = .ok (.aload_n 0, 1) := by decide +kernel
theorem dX5_mixSpots_35 : decode cX5_mixSpots 35 = .ok (.iload_n 1, 1) := by decide +kernel
theorem dX5_mixSpots_36 : decode cX5_mixSpots 36 = .ok (.iconst 0, 1) := by decide +kernel
theorem dX5_mixSpots_37 : decode cX5_mixSpots 37 = .ok (.invokevirtual 200, 3) := by decide +kernel
theorem dX5_mixSpots_40 : decode cX5_mixSpots 40 = .ok (.i2l, 1) := by decide +kernel
theorem dX5_mixSpots_41 : decode cX5_mixSpots 41 = .ok (.invokevirtual 240, 3) := by decide +kernel
theorem dX5_mixSpots_44 : decode cX5_mixSpots 44 = .ok (.aload_n 0, 1) := by decide +kernel
theorem dX5_mixSpots_45 : decode cX5_mixSpots 45 = .ok (.aload_n 0, 1) := by decide +kernel
theorem dX5_mixSpots_46 : decode cX5_mixSpots 46 = .ok (.iload_n 1, 1) := by decide +kernel
theorem dX5_mixSpots_47 : decode cX5_mixSpots 47 = .ok (.iconst 1, 1) := by decide +kernel
theorem dX5_mixSpots_48 : decode cX5_mixSpots 48 = .ok (.invokevirtual 200, 3) := by decide +kernel
theorem dX5_mixSpots_51 : decode cX5_mixSpots 51 = .ok (.i2l, 1) := by decide +kernel
theorem dX5_mixSpots_52 : decode cX5_mixSpots 52 = .ok (.invokevirtual 240, 3) := by decide +kernel
theorem dX5_mixSpots_55 : decode cX5_mixSpots 55 = .ok (.iinc 1 1, 3) := by decide +kernel
theorem dX5_mixSpots_58 : decode cX5_mixSpots 58 = .ok (.goto (-56), 3) := by decide +kernel
theorem dX5_mixSpots_61 : decode cX5_mixSpots 61 = .ok (.iconst 0, 1) := by decide +kernel
theorem dX5_mixSpots_62 : decode cX5_mixSpots 62 = .ok (.istore_n 1, 1) := by decide +kernel
theorem dX5_mixSpots_63 : decode cX5_mixSpots 63 = .ok (.iload_n 1, 1) := by decide +kernel
theorem dX5_mixSpots_64 : decode cX5_mixSpots 64 = .ok (.bipush 6, 2) := by decide +kernel
theorem dX5_mixSpots_66 : decode cX5_mixSpots 66 = .ok (.if_icmp .ge 34, 3) := by decide +kernel
theorem dX5_mixSpots_69 : decode cX5_mixSpots 69 = .ok (.iconst 0, 1) := by decide +kernel
theorem dX5_mixSpots_70 : decode cX5_mixSpots 70 = .ok (.istore_n 2, 1) := by decide +kernel
theorem dX5_mixSpots_71 : decode cX5_mixSpots 71 = .ok (.iload_n 2, 1) := by decide +kernel
theorem dX5_mixSpots_72 : decode cX5_mixSpots 72 = .ok (.bipush 6, 2) := by decide +kernel
theorem dX5_mixSpots_74 : decode cX5_mixSpots 74 = .ok (.if_icmp .ge 20, 3) := by decide +kernel
theorem dX5_mixSpots_77 : decode cX5_mixSpots 77 = .ok (.aload_n 0, 1) := by decide +kernel
theorem dX5_mixSpots_78 : decode cX5_mixSpots 78 = .ok (.aload_n 0, 1) := by decide +kernel
theorem dX5_mixSpots_79 : decode cX5_mixSpots 79 = .ok (.iload_n 1, 1) := by decide +kernel
theorem dX5_mixSpots_80 : decode cX5_mixSpots 80 = .ok (.iload_n 2, 1) := by decide +kernel
theorem dX5_mixSpots_81 : decode cX5_mixSpots 81 = .ok (.invokevirtual 191, 3) := by decide +kernel
theorem dX5_mixSpots_84 : decode cX5_mixSpots 84 = .ok (.i2l, 1) := by decide +kernel
theorem dX5_mixSpots_85 : decode cX5_mixSpots 85 = .ok (.invokevirtual 240, 3) := by decide +kernel
theorem dX5_mixSpots_88 : decode cX5_mixSpots 88 = .ok (.iinc 2 1, 3) := by decide +kernel
theorem dX5_mixSpots_91 : decode cX5_mixSpots 91 = .ok (.goto (-20), 3) := by decide +kernel
theorem dX5_mixSpots_94 : decode cX5_mixSpots 94 = .ok (.iinc 1 1, 3) := by decide +kernel
theorem dX5_mixSpots_97 : decode cX5_mixSpots 97 = .ok (.goto (-34), 3) := by decide +kernel
theorem dX5_mixSpots_100 : decode cX5_mixSpots 100 = .ok (.iconst 0, 1) := by decide +kernel
theorem dX5_mixSpots_101 : decode cX5_mixSpots 101 = .ok (.istore_n 1, 1) := by decide +kernel
theorem dX5_mixSpots_102 : decode cX5_mixSpots 102 = .ok (.iload_n 1, 1) := by decide +kernel
theorem dX5_mixSpots_103 : decode cX5_mixSpots 103 = .ok (.sipush 180, 3) := by decide +kernel
theorem dX5_mixSpots_106 : decode cX5_mixSpots 106 = .ok (.if_icmp .ge 31, 3) := by decide +kernel
theorem dX5_mixSpots_109 : decode cX5_mixSpots 109 = .ok (.aload_n 0, 1) := by decide +kernel
theorem dX5_mixSpots_110 : decode cX5_mixSpots 110 = .ok (.aload_n 0, 1) := by decide +kernel
theorem dX5_mixSpots_111 : decode cX5_mixSpots 111 = .ok (.iload_n 1, 1) := by decide +kernel
theorem dX5_mixSpots_112 : decode cX5_mixSpots 112 = .ok (.bipush 30, 2) := by decide +kernel
theorem dX5_mixSpots_114 : decode cX5_mixSpots 114 = .ok (.idiv, 1) := by decide +kernel
theorem dX5_mixSpots_115 : decode cX5_mixSpots 115 = .ok (.iload_n 1, 1) := by decide +kernel
theorem dX5_mixSpots_116 : decode cX5_mixSpots 116 = .ok (.iconst 5, 1) := by decide +kernel
theorem dX5_mixSpots_117 : decode cX5_mixSpots 117 = .ok (.idiv, 1) := by decide +kernel
theorem dX5_mixSpots_118 : decode cX5_mixSpots 118 = .ok (.bipush 6, 2) := by decide +kernel
theorem dX5_mixSpots_120 : decode cX5_mixSpots 120 = .ok (.irem, 1) := by decide +kernel
theorem dX5_mixSpots_121 : decode cX5_mixSpots 121 = .ok (.iload_n 1, 1) := by decide +kernel
theorem dX5_mixSpots_122 : decode cX5_mixSpots 122 = .ok (.iconst 5, 1) := by decide +kernel
theorem dX5_mixSpots_123 : decode cX5_mixSpots 123 = .ok (.irem, 1) := by decide +kernel
theorem dX5_mixSpots_124 : decode cX5_mixSpots 124 = .ok (.invokevirtual 194, 3) := by decide +kernel
theorem dX5_mixSpots_127 : decode cX5_mixSpots 127 = .ok (.i2l, 1) := by decide +kernel
theorem dX5_mixSpots_128 : decode cX5_mixSpots 128 = .ok (.invokevirtual 240, 3) := by decide +kernel
theorem dX5_mixSpots_131 : decode cX5_mixSpots 131 = .ok (.iinc 1 1, 3) := by decide +kernel
theorem dX5_mixSpots_134 : decode cX5_mixSpots 134 = .ok (.goto (-32), 3) := by decide +kernel
theorem dX5_mixSpots_137 : decode cX5_mixSpots 137 = .ok (.return_, 1) := by decide +kernel
set_option maxRecDepth 20000 in
theorem ggX5_digest_X5_counted : GoodIn wsX5_digest wsX5_counted := goodIn_r _ [12, 4, 13, 14, 15, 16, 11, 17, 18, 19, 20, 21, 22, 23, 24, 25, 26, 27, 28, 29, 30, 31, 32, 33, 133, 134, 135, 136, 137, 138, 139, 140, 141, 142, 143, 144, 145, 146, 147, 148, 149, 150] (by decide +kernel) (by decide +kernel)
set_option maxRecDepth 20000 in
theorem gX5_digest_X5_counted : GoodIn wsX5_digest (wsV RX5 197 RX5 yX5_counted wsX5_counted) := goodIn_app (goodIn_of _ (by decide +kernel)) ggX5_digest_X5_counted
set_option maxRecDepth 20000 in
theorem ggX5_digest_X5_mix : GoodIn wsX5_digest wsX5_mix := goodIn_r _ [37, 38, 3, 133, 134, 135, 136, 137, 138, 139, 140, 141, 142, 143, 144, 145, 146, 147, 148, 149, 150] (by decide +kernel) (by decide +kernel)
set_option maxRecDepth 20000 in
theorem gX5_digest_X5_mix : GoodIn wsX5_digest (wsV RX5 240 RX5 yX5_mix wsX5_mix) := goodIn_app (goodIn_of _ (by decide +kernel)) ggX5_digest_X5_mix
set_option maxRecDepth 20000 in
theorem ggX5_digest_X5_mixSpots : GoodIn wsX5_digest wsX5_mixSpots := goodIn_r _ [42, 43, 44, 45, 11, 46, 30, 31, 32, 33, 4, 14, 15, 16, 17, 18, 19, 20, 21, 22, 23, 24, 25, 34, 35, 36, 37, 38, 3, 47, 48, 49, 50, 51, 52, 53, 54, 55, 56, 57, 58, 59, 60, 61, 62, 63, 64, 65, 66, 67, 68, 69, 70, 71, 72, 73, 74, 75, 76, 26, 27, 28, 29, 77, 78, 79, 80, 81, 82, 83, 84, 85, 86, 87, 88, 89, 90, 91, 92, 93, 94, 95, 96, 133, 134, 135, 136, 137, 138, 139, 140, 141, 142, 143, 144, 145, 146, 147, 148, 149, 150] (by decide +kernel) (by decide +kernel)
set_option maxRecDepth 20000 in
theorem gX5_digest_X5_mixSpots : GoodIn wsX5_digest (wsV RX5 246 RX5 yX5_mixSpots wsX5_mixSpots) := goodIn_app (goodIn_of _ (by decide +kernel)) ggX5_digest_X5_mixSpots
set_option maxRecDepth 20000 in
theorem ggX5_digest_X5_worthOf : GoodIn wsX5_digest wsX5_worthOf := goodIn_r _ [61, 57, 62, 63, 64, 11, 65, 66, 67, 68, 69, 70, 71, 72, 73, 74, 75, 76, 4, 18, 19, 20, 21, 22, 23, 24, 25, 30, 31, 32, 33, 26, 27, 28, 29, 133, 134, 135, 136, 137, 138, 139, 140, 141, 142, 143, 144, 145, 146, 147, 148, 149, 150] (by decide +kernel) (by decide +kernel)
set_option maxRecDepth 20000 in
theorem gX5_digest_X5_worthOf : GoodIn wsX5_digest (wsV RX5 66 RX5 yX5_worthOf wsX5_worthOf) := goodIn_app (goodIn_of _ (by decide +kernel)) ggX5_digest_X5_worthOf
set_option maxRecDepth 20000 in
theorem ggX5_digest_X5_wouldBid : GoodIn wsX5_digest wsX5_wouldBid := goodIn_r _ [100, 74, 75, 76, 52, 53, 54, 55, 11, 56, 57, 51, 58, 59, 60, 61, 62, 63, 64, 65, 66, 67, 68, 69, 70, 71, 72, 73, 4, 18, 19, 20, 21, 22, 23, 24, 25, 30, 31, 32, 33, 26, 27, 28, 29, 101, 102, 103, 104, 133, 134, 135, 136, 137, 138, 139, 140, 141, 142, 143, 144, 145, 146, 147, 148, 149, 150] (by decide +kernel) (by decide +kernel)
set_option maxRecDepth 20000 in
theorem gX5_digest_X5_wouldBid : GoodIn wsX5_digest (wsV RX5 206 RX5 yX5_wouldBid wsX5_wouldBid) := goodIn_app (goodIn_of _ (by decide +kernel)) ggX5_digest_X5_wouldBid
set_option maxRecDepth 20000 in
theorem ggX5_digest_X5_leastOf : GoodIn wsX5_digest wsX5_leastOf := goodIn_r _ [108, 97, 98, 99, 11, 100, 74, 75, 76, 52, 53, 54, 55, 56, 57, 51, 58, 59, 60, 61, 62, 63, 64, 65, 66, 67, 68, 69, 70, 71, 72, 73, 4, 18, 19, 20, 21, 22, 23, 24, 25, 30, 31, 32, 33, 26, 27, 28, 29, 101, 102, 103, 104, 133, 134, 135, 136, 137, 138, 139, 140, 141, 142, 143, 144, 145, 146, 147, 148, 149, 150] (by decide +kernel) (by decide +kernel)
set_option maxRecDepth 20000 in
theorem gX5_digest_X5_leastOf : GoodIn wsX5_digest (wsV RX5 210 RX5 yX5_leastOf wsX5_leastOf) := goodIn_app (goodIn_of _ (by decide +kernel)) ggX5_digest_X5_leastOf
set_option maxRecDepth 20000 in
theorem ggX5_digest_X5_keen : GoodIn wsX5_digest wsX5_keen := goodIn_r _ [112, 58, 59, 60, 11, 61, 57, 62, 63, 64, 65, 66, 67, 68, 69, 70, 71, 72, 73, 74, 75, 76, 4, 18, 19, 20, 21, 22, 23, 24, 25, 30, 31, 32, 33, 26, 27, 28, 29, 133, 134, 135, 136, 137, 138, 139, 140, 141, 142, 143, 144, 145, 146, 147, 148, 149, 150] (by decide +kernel) (by decide +kernel)
set_option maxRecDepth 20000 in
theorem gX5_digest_X5_keen : GoodIn wsX5_digest (wsV RX5 213 RX5 yX5_keen wsX5_keen) := goodIn_app (goodIn_of _ (by decide +kernel)) ggX5_digest_X5_keen
set_option maxRecDepth 20000 in
theorem ggX5_digest_X5_share : GoodIn wsX5_digest wsX5_share := goodIn_r _ [116, 4, 133, 134, 135, 136, 137, 138, 139, 140, 141, 142, 143, 144, 145, 146, 147, 148, 149, 150] (by decide +kernel) (by decide +kernel)
set_option maxRecDepth 20000 in
theorem gX5_digest_X5_share : GoodIn wsX5_digest (wsV RX5 216 RX5 yX5_share wsX5_share) := goodIn_app (goodIn_of _ (by decide +kernel)) ggX5_digest_X5_share
set_option maxRecDepth 20000 in
theorem ggX5_digest_X5_bits : GoodIn wsX5_digest wsX5_bits := goodIn_r _ [119, 120, 121, 122, 123] (by decide +kernel) (by decide +kernel)
set_option maxRecDepth 20000 in
theorem gX5_digest_X5_bits : GoodIn wsX5_digest (va_wsS RX5 249 yX5_bits wsX5_bits) := goodIn_app (goodIn_of _ (by decide +kernel)) ggX5_digest_X5_bits
set_option maxRecDepth 20000 in
theorem ggX5_digest_X5_mean : GoodIn wsX5_digest wsX5_mean := goodIn_r _ [127, 4, 133, 134, 135, 136, 137, 138, 139, 140, 141, 142, 143, 144, 145, 146, 147, 148, 149, 150] (by decide +kernel) (by decide +kernel)
set_option maxRecDepth 20000 in
theorem gX5_digest_X5_mean : GoodIn wsX5_digest (wsV RX5 220 RX5 yX5_mean wsX5_mean) := goodIn_app (goodIn_of _ (by decide +kernel)) ggX5_digest_X5_mean
set_option maxRecDepth 20000 in
theorem ggX5_digest_X5_floatBits : GoodIn wsX5_digest wsX5_floatBits := goodIn_r _ [130, 131, 132] (by decide +kernel) (by decide +kernel)
set_option maxRecDepth 20000 in
theorem gX5_digest_X5_floatBits : GoodIn wsX5_digest (va_wsS RX5 253 yX5_floatBits wsX5_floatBits) := goodIn_app (goodIn_of _ (by decide +kernel)) ggX5_digest_X5_floatBits
theorem dX5_digest_0 : decode cX5_digest 0 = .ok (.aload_n 0, 1) := by decide +kernel
theorem dX5_digest_1 : decode cX5_digest 1 = .ok (.iconst 0, 1) := by decide +kernel
theorem dX5_digest_2 : decode cX5_digest 2 = .ok (.putfield 29, 3) := by decide +kernel
theorem dX5_digest_5 : decode cX5_digest 5 = .ok (.aload_n 0, 1) := by decide +kernel
theorem dX5_digest_6 : decode cX5_digest 6 = .ok (.ldc2_w 244, 3) := by decide +kernel
theorem dX5_digest_9 : decode cX5_digest 9 = .ok (.putfield 226, 3) := by decide +kernel
theorem dX5_digest_12 : decode cX5_digest 12 = .ok (.iconst 0, 1) := by decide +kernel
theorem dX5_digest_13 : decode cX5_digest 13 = .ok (.istore_n 1, 1) := by decide +kernel
theorem dX5_digest_14 : decode cX5_digest 14 = .ok (.iload_n 1, 1) := by decide +kernel
theorem dX5_digest_15 : decode cX5_digest 15 = .ok (.bipush 15, 2) := by decide +kernel
theorem dX5_digest_17 : decode cX5_digest 17 = .ok (.if_icmp .ge 19, 3) := by decide +kernel
theorem dX5_digest_20 : decode cX5_digest 20 = .ok (.aload_n 0, 1) := by decide +kernel
theorem dX5_digest_21 : decode cX5_digest 21 = .ok (.aload_n 0, 1) := by decide +kernel
theorem dX5_digest_22 : decode cX5_digest 22 = .ok (.iload_n 1, 1) := by decide +kernel
theorem dX5_digest_23 : decode cX5_digest 23 = .ok (.invokevirtual 197, 3) := by decide +kernel
theorem dX5_digest_26 : decode cX5_digest 26 = .ok (.i2l, 1) := by decide +kernel
theorem dX5_digest_27 : decode cX5_digest 27 = .ok (.invokevirtual 240, 3) := by decide +kernel
theorem dX5_digest_30 : decode cX5_digest 30 = .ok (.iinc 1 1, 3) := by decide +kernel
theorem dX5_digest_33 : decode cX5_digest 33 = .ok (.goto (-19), 3) := by decide +kernel
theorem dX5_digest_36 : decode cX5_digest 36 = .ok (.iconst 0, 1) := by decide +kernel
theorem dX5_digest_37 : decode cX5_digest 37 = .ok (.istore_n 1, 1) := by decide +kernel
theorem dX5_digest_38 : decode cX5_digest 38 = .ok (.iload_n 1, 1) := by decide +kernel
theorem dX5_digest_39 : decode cX5_digest 39 = .ok (.iconst 3, 1) := by decide +kernel
theorem dX5_digest_40 : decode cX5_digest 40 = .ok (.if_icmp .ge 23, 3) := by decide +kernel
theorem dX5_digest_43 : decode cX5_digest 43 = .ok (.aload_n 0, 1) := by decide +kernel
theorem dX5_digest_44 : decode cX5_digest 44 = .ok (.aload_n 0, 1) := by decide +kernel
theorem dX5_digest_45 : decode cX5_digest 45 = .ok (.getfield 7, 3) := by decide +kernel
theorem dX5_digest_48 : decode cX5_digest 48 = .ok (.bipush 12, 2) := by decide +kernel
theorem dX5_digest_50 : decode cX5_digest 50 = .ok (.iload_n 1, 1) := by decide +kernel
theorem dX5_digest_51 : decode cX5_digest 51 = .ok (.iadd, 1) := by decide +kernel
theorem dX5_digest_52 : decode cX5_digest 52 = .ok (.iaload, 1) := by decide +kernel
theorem dX5_digest_53 : decode cX5_digest 53 = .ok (.i2l, 1) := by decide +kernel
theorem dX5_digest_54 : decode cX5_digest 54 = .ok (.invokevirtual 240, 3) := by decide +kernel
theorem dX5_digest_57 : decode cX5_digest 57 = .ok (.iinc 1 1, 3) := by decide +kernel
theorem dX5_digest_60 : decode cX5_digest 60 = .ok (.goto (-22), 3) := by decide +kernel
theorem dX5_digest_63 : decode cX5_digest 63 = .ok (.aload_n 0, 1) := by decide +kernel
theorem dX5_digest_64 : decode cX5_digest 64 = .ok (.invokevirtual 246, 3) := by decide +kernel
theorem dX5_digest_67 : decode cX5_digest 67 = .ok (.iconst 0, 1) := by decide +kernel
theorem dX5_digest_68 : decode cX5_digest 68 = .ok (.istore_n 1, 1) := by decide +kernel
theorem dX5_digest_69 : decode cX5_digest 69 = .ok (.iload_n 1, 1) := by decide +kernel
theorem dX5_digest_70 : decode cX5_digest 70 = .ok (.bipush 6, 2) := by decide +kernel
theorem dX5_digest_72 : decode cX5_digest 72 = .ok (.if_icmp .gt 27, 3) := by decide +kernel
theorem dX5_digest_75 : decode cX5_digest 75 = .ok (.aload_n 0, 1) := by decide +kernel
theorem dX5_digest_76 : decode cX5_digest 76 = .ok (.iload_n 1, 1) := by decide +kernel
theorem dX5_digest_77 : decode cX5_digest 77 = .ok (.invokevirtual 66, 3) := by decide +kernel
theorem dX5_digest_80 : decode cX5_digest 80 = .ok (.istore_n 2, 1) := by decide +kernel
theorem dX5_digest_81 : decode cX5_digest 81 = .ok (.aload_n 0, 1) := by decide +kernel
theorem dX5_digest_82 : decode cX5_digest 82 = .ok (.iload_n 2, 1) := by decide +kernel
theorem dX5_digest_83 : decode cX5_digest 83 = .ok (.i2l, 1) := by decide +kernel
theorem dX5_digest_84 : decode cX5_digest 84 = .ok (.invokevirtual 240, 3) := by decide +kernel
theorem dX5_digest_87 : decode cX5_digest 87 = .ok (.aload_n 0, 1) := by decide +kernel
theorem dX5_digest_88 : decode cX5_digest 88 = .ok (.iload_n 2, 1) := by decide +kernel
theorem dX5_digest_89 : decode cX5_digest 89 = .ok (.i2l, 1) := by decide +kernel
theorem dX5_digest_90 : decode cX5_digest 90 = .ok (.invokevirtual 240, 3) := by decide +kernel
theorem dX5_digest_93 : decode cX5_digest 93 = .ok (.iinc 1 1, 3) := by decide +kernel
theorem dX5_digest_96 : decode cX5_digest 96 = .ok (.goto (-27), 3) := by decide +kernel
theorem dX5_digest_99 : decode cX5_digest 99 = .ok (.aload_n 0, 1) := by decide +kernel
theorem dX5_digest_100 : decode cX5_digest 100 = .ok (.aload_n 0, 1) := by decide +kernel
theorem dX5_digest_101 : decode cX5_digest 101 = .ok (.iconst 1, 1) := by decide +kernel
theorem dX5_digest_102 : decode cX5_digest 102 = .ok (.iconst 2, 1) := by decide +kernel
theorem dX5_digest_103 : decode cX5_digest 103 = .ok (.bipush 20, 2) := by decide +kernel
theorem dX5_digest_105 : decode cX5_digest 105 = .ok (.iconst 0, 1) := by decide +kernel
theorem dX5_digest_106 : decode cX5_digest 106 = .ok (.invokevirtual 206, 3) := by decide +kernel
theorem dX5_digest_109 : decode cX5_digest 109 = .ok (.i2l, 1) := by decide +kernel
theorem dX5_digest_110 : decode cX5_digest 110 = .ok (.invokevirtual 240, 3) := by decide +kernel
theorem dX5_digest_113 : decode cX5_digest 113 = .ok (.aload_n 0, 1) := by decide +kernel
theorem dX5_digest_114 : decode cX5_digest 114 = .ok (.aload_n 0, 1) := by decide +kernel
theorem dX5_digest_115 : decode cX5_digest 115 = .ok (.iconst 1, 1) := by decide +kernel
theorem dX5_digest_116 : decode cX5_digest 116 = .ok (.iconst 2, 1) := by decide +kernel
theorem dX5_digest_117 : decode cX5_digest 117 = .ok (.bipush 20, 2) := by decide +kernel
theorem dX5_digest_119 : decode cX5_digest 119 = .ok (.iconst 1, 1) := by decide +kernel
theorem dX5_digest_120 : decode cX5_digest 120 = .ok (.invokevirtual 206, 3) := by decide +kernel
theorem dX5_digest_123 : decode cX5_digest 123 = .ok (.i2l, 1) := by decide +kernel
theorem dX5_digest_124 : decode cX5_digest 124 = .ok (.invokevirtual 240, 3) := by decide +kernel
theorem dX5_digest_127 : decode cX5_digest 127 = .ok (.aload_n 0, 1) := by decide +kernel
theorem dX5_digest_128 : decode cX5_digest 128 = .ok (.aload_n 0, 1) := by decide +kernel
theorem dX5_digest_129 : decode cX5_digest 129 = .ok (.iconst 0, 1) := by decide +kernel
theorem dX5_digest_130 : decode cX5_digest 130 = .ok (.iconst 0, 1) := by decide +kernel
theorem dX5_digest_131 : decode cX5_digest 131 = .ok (.invokevirtual 210, 3) := by decide +kernel
theorem dX5_digest_134 : decode cX5_digest 134 = .ok (.i2l, 1) := by decide +kernel
theorem dX5_digest_135 : decode cX5_digest 135 = .ok (.invokevirtual 240, 3) := by decide +kernel
theorem dX5_digest_138 : decode cX5_digest 138 = .ok (.aload_n 0, 1) := by decide +kernel
theorem dX5_digest_139 : decode cX5_digest 139 = .ok (.aload_n 0, 1) := by decide +kernel
theorem dX5_digest_140 : decode cX5_digest 140 = .ok (.invokevirtual 213, 3) := by decide +kernel
theorem dX5_digest_143 : decode cX5_digest 143 = .ok (.i2l, 1) := by decide +kernel
theorem dX5_digest_144 : decode cX5_digest 144 = .ok (.invokevirtual 240, 3) := by decide +kernel
theorem dX5_digest_147 : decode cX5_digest 147 = .ok (.aload_n 0, 1) := by decide +kernel
theorem dX5_digest_148 : decode cX5_digest 148 = .ok (.aload_n 0, 1) := by decide +kernel
theorem dX5_digest_149 : decode cX5_digest 149 = .ok (.invokevirtual 216, 3) := by decide +kernel
theorem dX5_digest_152 : decode cX5_digest 152 = .ok (.invokestatic 249, 3) := by decide +kernel
theorem dX5_digest_155 : decode cX5_digest 155 = .ok (.invokevirtual 240, 3) := by decide +kernel
theorem dX5_digest_158 : decode cX5_digest 158 = .ok (.aload_n 0, 1) := by decide +kernel
theorem dX5_digest_159 : decode cX5_digest 159 = .ok (.aload_n 0, 1) := by decide +kernel
theorem dX5_digest_160 : decode cX5_digest 160 = .ok (.invokevirtual 220, 3) := by decide +kernel
theorem dX5_digest_163 : decode cX5_digest 163 = .ok (.invokestatic 253, 3) := by decide +kernel
theorem dX5_digest_166 : decode cX5_digest 166 = .ok (.i2l, 1) := by decide +kernel
theorem dX5_digest_167 : decode cX5_digest 167 = .ok (.invokevirtual 240, 3) := by decide +kernel
theorem dX5_digest_170 : decode cX5_digest 170 = .ok (.aload_n 0, 1) := by decide +kernel
theorem dX5_digest_171 : decode cX5_digest 171 = .ok (.aload_n 0, 1) := by decide +kernel
theorem dX5_digest_172 : decode cX5_digest 172 = .ok (.getfield 177, 3) := by decide +kernel
theorem dX5_digest_175 : decode cX5_digest 175 = .ok (.ifCond .eq 7, 3) := by decide +kernel
theorem dX5_digest_178 : decode cX5_digest 178 = .ok (.lconst 1, 1) := by decide +kernel
theorem dX5_digest_179 : decode cX5_digest 179 = .ok (.goto 4, 3) := by decide +kernel
theorem dX5_digest_182 : decode cX5_digest 182 = .ok (.lconst 0, 1) := by decide +kernel
theorem dX5_digest_183 : decode cX5_digest 183 = .ok (.invokevirtual 240, 3) := by decide +kernel
theorem dX5_digest_186 : decode cX5_digest 186 = .ok (.aload_n 0, 1) := by decide +kernel
theorem dX5_digest_187 : decode cX5_digest 187 = .ok (.aload_n 0, 1) := by decide +kernel
theorem dX5_digest_188 : decode cX5_digest 188 = .ok (.getfield 137, 3) := by decide +kernel
theorem dX5_digest_191 : decode cX5_digest 191 = .ok (.i2l, 1) := by decide +kernel
theorem dX5_digest_192 : decode cX5_digest 192 = .ok (.invokevirtual 240, 3) := by decide +kernel
theorem dX5_digest_195 : decode cX5_digest 195 = .ok (.iconst 0, 1) := by decide +kernel
theorem dX5_digest_196 : decode cX5_digest 196 = .ok (.istore_n 1, 1) := by decide +kernel
theorem dX5_digest_197 : decode cX5_digest 197 = .ok (.iload_n 1, 1) := by decide +kernel
theorem dX5_digest_198 : decode cX5_digest 198 = .ok (.aload_n 0, 1) := by decide +kernel
theorem dX5_digest_199 : decode cX5_digest 199 = .ok (.getfield 137, 3) := by decide +kernel
theorem dX5_digest_202 : decode cX5_digest 202 = .ok (.if_icmp .ge 20, 3) := by decide +kernel
theorem dX5_digest_205 : decode cX5_digest 205 = .ok (.aload_n 0, 1) := by decide +kernel
theorem dX5_digest_206 : decode cX5_digest 206 = .ok (.aload_n 0, 1) := by decide +kernel
theorem dX5_digest_207 : decode cX5_digest 207 = .ok (.getfield 13, 3) := by decide +kernel
theorem dX5_digest_210 : decode cX5_digest 210 = .ok (.iload_n 1, 1) := by decide +kernel
theorem dX5_digest_211 : decode cX5_digest 211 = .ok (.iaload, 1) := by decide +kernel
theorem dX5_digest_212 : decode cX5_digest 212 = .ok (.i2l, 1) := by decide +kernel
theorem dX5_digest_213 : decode cX5_digest 213 = .ok (.invokevirtual 240, 3) := by decide +kernel
theorem dX5_digest_216 : decode cX5_digest 216 = .ok (.iinc 1 1, 3) := by decide +kernel
theorem dX5_digest_219 : decode cX5_digest 219 = .ok (.goto (-22), 3) := by decide +kernel
theorem dX5_digest_222 : decode cX5_digest 222 = .ok (.aload_n 0, 1) := by decide +kernel
theorem dX5_digest_223 : decode cX5_digest 223 = .ok (.getfield 226, 3) := by decide +kernel
theorem dX5_digest_226 : decode cX5_digest 226 = .ok (.lreturn, 1) := by decide +kernel
theorem dJ9_max_7cf53_0 : decode cJ9_max_7cf53 0 = .ok (.iload_n 0, 1) := by decide +kernel
theorem dJ9_max_7cf53_1 : decode cJ9_max_7cf53 1 = .ok (.iload_n 1, 1) := by decide +kernel
theorem dJ9_max_7cf53_2 : decode cJ9_max_7cf53 2 = .ok (.if_icmp .lt 7, 3) := by decide +kernel
theorem dJ9_max_7cf53_5 : decode cJ9_max_7cf53 5 = .ok (.iload_n 0, 1) := by decide +kernel
theorem dJ9_max_7cf53_6 : decode cJ9_max_7cf53 6 = .ok (.goto 4, 3) := by decide +kernel
theorem dJ9_max_7cf53_9 : decode cJ9_max_7cf53 9 = .ok (.iload_n 1, 1) := by decide +kernel
theorem dJ9_max_7cf53_10 : decode cJ9_max_7cf53 10 = .ok (.ireturn, 1) := by decide +kernel
theorem dJ9_max_f86c9_0 : decode cJ9_max_f86c9 0 = .ok (.lload_n 0, 1) := by decide +kernel
theorem dJ9_max_f86c9_1 : decode cJ9_max_f86c9 1 = .ok (.lload_n 2, 1) := by decide +kernel
theorem dJ9_max_f86c9_2 : decode cJ9_max_f86c9 2 = .ok (.lcmp, 1) := by decide +kernel
theorem dJ9_max_f86c9_3 : decode cJ9_max_f86c9 3 = .ok (.ifCond .lt 7, 3) := by decide +kernel
theorem dJ9_max_f86c9_6 : decode cJ9_max_f86c9 6 = .ok (.lload_n 0, 1) := by decide +kernel
theorem dJ9_max_f86c9_7 : decode cJ9_max_f86c9 7 = .ok (.goto 4, 3) := by decide +kernel
theorem dJ9_max_f86c9_10 : decode cJ9_max_f86c9 10 = .ok (.lload_n 2, 1) := by decide +kernel
theorem dJ9_max_f86c9_11 : decode cJ9_max_f86c9 11 = .ok (.lreturn, 1) := by decide +kernel
theorem dJ9_min_7cf53_0 : decode cJ9_min_7cf53 0 = .ok (.iload_n 0, 1) := by decide +kernel
theorem dJ9_min_7cf53_1 : decode cJ9_min_7cf53 1 = .ok (.iload_n 1, 1) := by decide +kernel
theorem dJ9_min_7cf53_2 : decode cJ9_min_7cf53 2 = .ok (.if_icmp .gt 7, 3) := by decide +kernel
theorem dJ9_min_7cf53_5 : decode cJ9_min_7cf53 5 = .ok (.iload_n 0, 1) := by decide +kernel
theorem dJ9_min_7cf53_6 : decode cJ9_min_7cf53 6 = .ok (.goto 4, 3) := by decide +kernel
theorem dJ9_min_7cf53_9 : decode cJ9_min_7cf53 9 = .ok (.iload_n 1, 1) := by decide +kernel
theorem dJ9_min_7cf53_10 : decode cJ9_min_7cf53 10 = .ok (.ireturn, 1) := by decide +kernel
set_option maxRecDepth 20000 in
theorem ggL_price_X4_price : GoodIn wsL_price wsX4_price := goodIn_ca (goodIn_ca (goodIn_r _ [7, 8, 9, 10, 11, 6, 12, 13, 14, 15, 16, 17, 18, 19, 20, 21, 22, 23, 24, 25, 26, 27, 28, 29, 30, 31, 32, 33, 34, 35, 36, 37, 38, 39, 40, 41, 42, 43, 44, 45, 46, 47, 48, 49, 50, 51, 52, 53, 54, 55, 56, 57, 58] (by decide +kernel) (by decide +kernel)) (goodIn_sub (fun _ h => List.mem_cons_of_mem _ (List.mem_append_left _ (List.mem_append_right _ h))) (by decide +kernel))) (goodIn_sub (fun _ h => List.mem_cons_of_mem _ (List.mem_append_right _ h)) (by decide +kernel))
set_option maxRecDepth 20000 in
theorem gL_price_X4_price : GoodIn wsL_price (wsV RL 7 RX4 yX4_price wsX4_price) := goodIn_app (goodIn_of _ (by decide +kernel)) ggL_price_X4_price
